theorem ddM_leaveQueue_0 : decode cM_leaveQueue 0 = .ok (.aload_n 0, 1) := by decide +kernel
theorem ddM_leaveQueue_1 : decode cM_leaveQueue 1 = .ok (.iload_n 1, 1) := by decide +kernel
theorem ddM_leaveQueue_2 : decode cM_leaveQueue 2 = .ok (.iconst 0, 1) := by decide +kernel
theorem ddM_leaveQueue_3 : decode cM_leaveQueue 3 = .ok (.invokevirtual 170, 3) := by decide +kernel
theorem ddM_leaveQueue_6 : decode cM_leaveQueue 6 = .ok (.iconst 1, 1) := by decide +kernel
theorem ddM_leaveQueue_7 : decode cM_leaveQueue 7 = .ok (.if_icmp .ne 13, 3) := by decide +kernel
theorem ddM_leaveQueue_10 : decode cM_leaveQueue 10 = .ok (.aload_n 0, 1) := by decide +kernel
theorem ddM_leaveQueue_11 : decode cM_leaveQueue 11 = .ok (.aload_n 0, 1) := by decide +kernel
theorem ddM_leaveQueue_12 : decode cM_leaveQueue 12 = .ok (.iload_n 1, 1) := by decide +kernel
theorem ddM_leaveQueue_13 : decode cM_leaveQueue 13 = .ok (.invokevirtual 189, 3) := by decide +kernel
theorem ddM_leaveQueue_16 : decode cM_leaveQueue 16 = .ok (.iload_n 1, 1) := by decide +kernel
theorem ddM_leaveQueue_17 : decode cM_leaveQueue 17 = .ok (.invokevirtual 195, 3) := by decide +kernel
theorem ddM_leaveQueue_20 : decode cM_leaveQueue 20 = .ok (.return_, 1) := by decide +kernel
set_option maxHeartbeats 2000000 in
theorem zBM_leaveQueue_20 {G : GXM} {X : CxM} (hG : GokM G) (C : CoM G X cM_leaveQueue "HomeFreedModel") (N : mLM X = 2) {d : Nat} (hD : dpM X = d) (hd : 2 ≤ d)  {q : Mem} (E : EnM G X none none q 0 0) {M : Mem} (h : BM_leaveQueue_20 M = some q) : ZM G X 20 [] [] M 0 0 := by
  unfold BM_leaveQueue_20 at h
  obtain rfl := Option.some.inj h
  exact zz_vret C E ddM_leaveQueue_20
set_option maxHeartbeats 2000000 in
theorem xM_leaveQueue {G : GXM} {l : Launch} (hG : GokM G) (d : Nat) (hd : 2 ≤ d) {v0 : Nat} {v1 : Int32} {M : Mem} {q : Mem} (h : fM_leaveQueue v0 v1 M = some q) : ExM G l d 0 0 yM_leaveQueue cM_leaveQueue 2 none [.ref v0, .int v1] M none q := by
  refine ex_of hG (by decide) (Nat.le_of_ble_eq_true rfl) ?_
  intro X hl C E N hD hn
  show ZM G X 0 [(0, .ref v0), (1, .int v1)] [] M 0 0
  unfold fM_leaveQueue at h
  refine zz_aload_n C 0 ddM_leaveQueue_0 rfl rfl ?_
  refine zz_iload_n C 1 ddM_leaveQueue_1 rfl rfl ?_
  refine zz_iconst (v := 0) C ddM_leaveQueue_2 (by decide) ?_
  obtain ⟨h2, h⟩ := gdN h
  obtain ⟨q1, hq1, h⟩ := bindN h
  refine zz_callV0 (As := [.int v1, .int 0]) C ddM_leaveQueue_3 wd_1378 my_M_of mv_M_of ⟨_, rfl, rfl⟩ (xM_of hG (d - 1) (by omega) hq1) (by omega) h2 rfl rfl (Nat.le_of_ble_eq_true rfl) ?_
  refine zz_iconst (v := 1) C ddM_leaveQueue_6 (by decide) ?_
  refine zz_icmp_ne (tgt := 20) C ddM_leaveQueue_7 rfl (fun hc => ?_) (fun hc => ?_)
  · replace h := iteF h hc
    refine zz_loc (L1 := []) [] rfl ?_
    exact zBM_leaveQueue_20 hG C N hD hd E h
  · replace h := iteT h hc
    refine zz_aload_n C 0 ddM_leaveQueue_10 rfl rfl ?_
    refine zz_aload_n C 0 ddM_leaveQueue_11 rfl rfl ?_
    refine zz_iload_n C 1 ddM_leaveQueue_12 rfl rfl ?_
    obtain ⟨h4, h⟩ := gdN h
    obtain ⟨q3, hq3, h⟩ := bindN h
    refine zz_callV0 (As := [.int v1]) C ddM_leaveQueue_13 wd_1523 my_M_ownQueue mv_M_ownQueue ⟨_, rfl, rfl⟩ (xM_ownQueue hG (d - 1) (by omega) hq3) (by omega) h4 rfl rfl (Nat.le_of_ble_eq_true rfl) ?_
    refine zz_iload_n C 1 ddM_leaveQueue_16 rfl rfl ?_
    obtain ⟨h6, h⟩ := gdN h
    obtain ⟨q5, hq5, h⟩ := bindN h
    refine zz_callV0 (As := [.int q3.1, .int v1]) C ddM_leaveQueue_17 wd_1547 my_M_takeOut mv_M_takeOut ⟨_, rfl, rfl⟩ (xM_takeOut hG (d - 1) (by omega) hq5) (by omega) h6 rfl rfl (Nat.le_of_ble_eq_true rfl) ?_
    refine zz_loc (L1 := []) [] rfl ?_
    exact zBM_leaveQueue_20 hG C N hD hd E h
theorem ddM_makeEmpty_0 : decode cM_makeEmpty 0 = .ok (.aload_n 0, 1) := by decide +kernel
theorem ddM_makeEmpty_1 : decode cM_makeEmpty 1 = .ok (.iload_n 1, 1) := by decide +kernel
theorem ddM_makeEmpty_2 : decode cM_makeEmpty 2 = .ok (.invokevirtual 198, 3) := by decide +kernel
theorem ddM_makeEmpty_5 : decode cM_makeEmpty 5 = .ok (.aload_n 0, 1) := by decide +kernel
theorem ddM_makeEmpty_6 : decode cM_makeEmpty 6 = .ok (.iload_n 1, 1) := by decide +kernel
theorem ddM_makeEmpty_7 : decode cM_makeEmpty 7 = .ok (.iconst 0, 1) := by decide +kernel
theorem ddM_makeEmpty_8 : decode cM_makeEmpty 8 = .ok (.iconst 0, 1) := by decide +kernel
theorem ddM_makeEmpty_9 : decode cM_makeEmpty 9 = .ok (.invokevirtual 185, 3) := by decide +kernel
theorem ddM_makeEmpty_12 : decode cM_makeEmpty 12 = .ok (.iconst 0, 1) := by decide +kernel
theorem ddM_makeEmpty_13 : decode cM_makeEmpty 13 = .ok (.istore_n 2, 1) := by decide +kernel
theorem ddM_makeEmpty_14 : decode cM_makeEmpty 14 = .ok (.iload_n 2, 1) := by decide +kernel
theorem ddM_makeEmpty_15 : decode cM_makeEmpty 15 = .ok (.iconst 3, 1) := by decide +kernel
theorem ddM_makeEmpty_16 : decode cM_makeEmpty 16 = .ok (.if_icmp .ge 20, 3) := by decide +kernel
theorem ddM_makeEmpty_19 : decode cM_makeEmpty 19 = .ok (.aload_n 0, 1) := by decide +kernel
theorem ddM_makeEmpty_20 : decode cM_makeEmpty 20 = .ok (.getfield 31, 3) := by decide +kernel
theorem ddM_makeEmpty_23 : decode cM_makeEmpty 23 = .ok (.iload_n 1, 1) := by decide +kernel
theorem ddM_makeEmpty_24 : decode cM_makeEmpty 24 = .ok (.iload_n 2, 1) := by decide +kernel
theorem ddM_makeEmpty_25 : decode cM_makeEmpty 25 = .ok (.invokestatic 173, 3) := by decide +kernel
theorem ddM_makeEmpty_28 : decode cM_makeEmpty 28 = .ok (.iconst 0, 1) := by decide +kernel
theorem ddM_makeEmpty_29 : decode cM_makeEmpty 29 = .ok (.iastore, 1) := by decide +kernel
theorem ddM_makeEmpty_30 : decode cM_makeEmpty 30 = .ok (.iinc 2 1, 3) := by decide +kernel
theorem ddM_makeEmpty_33 : decode cM_makeEmpty 33 = .ok (.goto (-19), 3) := by decide +kernel
theorem ddM_makeEmpty_36 : decode cM_makeEmpty 36 = .ok (.return_, 1) := by decide +kernel
set_option maxHeartbeats 2000000 in
theorem zBM_makeEmpty_14 {G : GXM} {X : CxM} (hG : GokM G) (C : CoM G X cM_makeEmpty "HomeFreedModel") (N : mLM X = 3) {d : Nat} (hD : dpM X = d) (hd : 3 ≤ d) {v0 : Nat} {v1 : Int32} {K : Nat → Int32 → Int32 → Mem → Option ((Mem))} {q : (Mem)} (hK : ∀ (v2 : Int32) (M : Mem), K v0 v1 v2 M = some q → ZM G X 14 [(0, .ref v0), (1, .int v1), (2, .int v2)] [] M 0 0) (hr : ∀ r : Mem, q =  r → EnM G X none none r 0 0) {v2 : Int32} {M : Mem} (h : BM_makeEmpty_14 K v0 v1 v2 M = some q) : ZM G X 14 [(0, .ref v0), (1, .int v1), (2, .int v2)] [] M 0 0 := by
  unfold BM_makeEmpty_14 at h
  refine zz_iload_n C 2 ddM_makeEmpty_14 rfl rfl ?_
  refine zz_iconst (v := 3) C ddM_makeEmpty_15 (by decide) ?_
  refine zz_icmp_ge (tgt := 36) C ddM_makeEmpty_16 rfl (fun hc => ?_) (fun hc => ?_)
  · replace h := iteT h hc
    exact zz_vret C (hr _ (Option.some.inj h).symm) ddM_makeEmpty_36
  · replace h := iteF h hc
    refine zz_aload_n C 0 ddM_makeEmpty_19 rfl rfl ?_
    obtain ⟨h1, h⟩ := gdN h
    obtain ⟨h2, h⟩ := gdN h
    refine zz_getr C ddM_makeEmpty_20 fl_M_31 rfl h1 (of_decide_eq_true h2) ?_
    refine zz_iload_n C 1 ddM_makeEmpty_23 rfl rfl ?_
    refine zz_iload_n C 2 ddM_makeEmpty_24 rfl rfl ?_
    obtain ⟨q3, hq3, h⟩ := bindN h
    refine zz_callS0 (As := [.int v1, .int v2]) C ddM_makeEmpty_25 wd_1398 my_M_listAt mv_M_listAt (xM_listAt hG (d - 1) (by omega) hq3) (by omega) rfl rfl (Nat.le_of_ble_eq_true rfl) ?_
    refine zz_iconst (v := 0) C ddM_makeEmpty_28 (by decide) ?_
    obtain ⟨h4, h⟩ := gdN h
    refine zz_iastore C ddM_makeEmpty_29 h4 ?_
    refine zz_iinc (v := v2 + 1) (L1 := [(2, .int (v2 + 1)), (0, .ref v0), (1, .int v1)]) C 2 ddM_makeEmpty_30 rfl rfl N (by decide) rfl ?_
    refine zz_goto (tgt := 14) C ddM_makeEmpty_33 rfl ?_
    refine zz_loc (L1 := [(0, .ref v0), (1, .int v1), (2, .int (v2 + 1))]) [1, 2, 0] rfl ?_
    exact hK _ _ h
set_option maxHeartbeats 2000000 in
theorem zLM_makeEmpty_14 {G : GXM} {X : CxM} (hG : GokM G) (C : CoM G X cM_makeEmpty "HomeFreedModel") (N : mLM X = 3) {d : Nat} (hD : dpM X = d) (hd : 3 ≤ d) {v0 : Nat} {v1 : Int32} {q : (Mem)} : ∀ (f : Nat) (v2 : Int32) (M : Mem), LM_makeEmpty_14 f v0 v1 v2 M = some q → (hr : ∀ r : Mem, q =  r → EnM G X none none r 0 0) → ZM G X 14 [(0, .ref v0), (1, .int v1), (2, .int v2)] [] M 0 0 := by
  intro f
  induction f with
  | zero => intro v2 M h; cases h
  | succ f ih =>
    intro v2 M h hr
    exact zBM_makeEmpty_14 hG C N hD hd (K := LM_makeEmpty_14 f) (q := q) (fun v2 M h => ih v2 M h hr) hr h
set_option maxHeartbeats 2000000 in
theorem xM_makeEmpty {G : GXM} {l : Launch} (hG : GokM G) (d : Nat) (hd : 3 ≤ d) {v0 : Nat} {v1 : Int32} {M : Mem} {q : Mem} (h : fM_makeEmpty v0 v1 M = some q) : ExM G l d 0 0 yM_makeEmpty cM_makeEmpty 3 none [.ref v0, .int v1] M none q := by
  refine ex_of hG (by decide) (Nat.le_of_ble_eq_true rfl) ?_
  intro X hl C E N hD hn
  show ZM G X 0 [(2, .int v2), (0, .ref v0), (1, .int v1)] [] M 0 0
  unfold fM_makeEmpty at h
  refine zz_aload_n C 0 ddM_makeEmpty_0 rfl rfl ?_
  refine zz_iload_n C 1 ddM_makeEmpty_1 rfl rfl ?_
  obtain ⟨h2, h⟩ := gdN h
  obtain ⟨q1, hq1, h⟩ := bindN h
  refine zz_callV0 (As := [.int v1]) C ddM_makeEmpty_2 wd_1543 my_M_leaveQueue mv_M_leaveQueue ⟨_, rfl, rfl⟩ (xM_leaveQueue hG (d - 1) (by omega) hq1) (by omega) h2 rfl rfl (Nat.le_of_ble_eq_true rfl) ?_
  refine zz_aload_n C 0 ddM_makeEmpty_5 rfl rfl ?_
  refine zz_iload_n C 1 ddM_makeEmpty_6 rfl rfl ?_
  refine zz_iconst (v := 0) C ddM_makeEmpty_7 (by decide) ?_
  refine zz_iconst (v := 0) C ddM_makeEmpty_8 (by decide) ?_
  obtain ⟨h4, h⟩ := gdN h
  obtain ⟨q3, hq3, h⟩ := bindN h
  refine zz_callV0 (As := [.int v1, .int 0, .int 0]) C ddM_makeEmpty_9 wd_1511 my_M_set mv_M_set ⟨_, rfl, rfl⟩ (xM_set hG (d - 1) (by omega) hq3) (by omega) h4 rfl rfl (Nat.le_of_ble_eq_true rfl) ?_
  refine zz_iconst (v := 0) C ddM_makeEmpty_12 (by decide) ?_
  refine zz_istore_n (L1 := [(2, .int 0), (0, .ref v0), (1, .int v1)]) C ddM_makeEmpty_13 rfl N (by decide) rfl ?_
  refine zz_loc (L1 := [(0, .ref v0), (1, .int v1), (2, .int 0)]) [1, 2, 0] rfl ?_
  obtain ⟨q5, hq5, h⟩ := bindN h
  refine zLM_makeEmpty_14 hG C N hD hd 1000000 _ _ hq5 ?_
  · intro r6 eq5; subst eq5
    obtain rfl := Option.some.inj h
    exact E
theorem ddM_goHome_0 : decode cM_goHome 0 = .ok (.aload_n 0, 1) := by decide +kernel
theorem ddM_goHome_1 : decode cM_goHome 1 = .ok (.getfield 31, 3) := by decide +kernel
theorem ddM_goHome_4 : decode cM_goHome 4 = .ok (.iload_n 1, 1) := by decide +kernel
theorem ddM_goHome_5 : decode cM_goHome 5 = .ok (.iload_n 2, 1) := by decide +kernel
theorem ddM_goHome_6 : decode cM_goHome 6 = .ok (.invokestatic 238, 3) := by decide +kernel
theorem ddM_goHome_9 : decode cM_goHome 9 = .ok (.iaload, 1) := by decide +kernel
theorem ddM_goHome_10 : decode cM_goHome 10 = .ok (.istore_n 3, 1) := by decide +kernel
theorem ddM_goHome_11 : decode cM_goHome 11 = .ok (.aload_n 0, 1) := by decide +kernel
theorem ddM_goHome_12 : decode cM_goHome 12 = .ok (.iload_n 1, 1) := by decide +kernel
theorem ddM_goHome_13 : decode cM_goHome 13 = .ok (.iload_n 2, 1) := by decide +kernel
theorem ddM_goHome_14 : decode cM_goHome 14 = .ok (.invokestatic 238, 3) := by decide +kernel
theorem ddM_goHome_17 : decode cM_goHome 17 = .ok (.iload_n 2, 1) := by decide +kernel
theorem ddM_goHome_18 : decode cM_goHome 18 = .ok (.iconst 2, 1) := by decide +kernel
theorem ddM_goHome_19 : decode cM_goHome 19 = .ok (.invokestatic 173, 3) := by decide +kernel
theorem ddM_goHome_22 : decode cM_goHome 22 = .ok (.invokevirtual 211, 3) := by decide +kernel
theorem ddM_goHome_25 : decode cM_goHome 25 = .ok (.iload_n 3, 1) := by decide +kernel
theorem ddM_goHome_26 : decode cM_goHome 26 = .ok (.ifCond .le 26, 3) := by decide +kernel
theorem ddM_goHome_29 : decode cM_goHome 29 = .ok (.aload_n 0, 1) := by decide +kernel
theorem ddM_goHome_30 : decode cM_goHome 30 = .ok (.iload_n 2, 1) := by decide +kernel
theorem ddM_goHome_31 : decode cM_goHome 31 = .ok (.iconst 0, 1) := by decide +kernel
theorem ddM_goHome_32 : decode cM_goHome 32 = .ok (.invokevirtual 170, 3) := by decide +kernel
theorem ddM_goHome_35 : decode cM_goHome 35 = .ok (.iconst 3, 1) := by decide +kernel
theorem ddM_goHome_36 : decode cM_goHome 36 = .ok (.if_icmp .ne 16, 3) := by decide +kernel
theorem ddM_goHome_39 : decode cM_goHome 39 = .ok (.aload_n 0, 1) := by decide +kernel
theorem ddM_goHome_40 : decode cM_goHome 40 = .ok (.iload_n 2, 1) := by decide +kernel
theorem ddM_goHome_41 : decode cM_goHome 41 = .ok (.invokevirtual 201, 3) := by decide +kernel
theorem ddM_goHome_44 : decode cM_goHome 44 = .ok (.ifCond .ne 8, 3) := by decide +kernel
theorem ddM_goHome_47 : decode cM_goHome 47 = .ok (.aload_n 0, 1) := by decide +kernel
theorem ddM_goHome_48 : decode cM_goHome 48 = .ok (.iload_n 2, 1) := by decide +kernel
theorem ddM_goHome_49 : decode cM_goHome 49 = .ok (.invokevirtual 204, 3) := by decide +kernel
theorem ddM_goHome_52 : decode cM_goHome 52 = .ok (.iload_n 3, 1) := by decide +kernel
theorem ddM_goHome_53 : decode cM_goHome 53 = .ok (.ireturn, 1) := by decide +kernel
set_option maxHeartbeats 2000000 in
theorem zBM_goHome_52 {G : GXM} {X : CxM} (hG : GokM G) (C : CoM G X cM_goHome "HomeFreedModel") (N : mLM X = 4) {d : Nat} (hD : dpM X = d) (hd : 4 ≤ d)  {q : Int32 × Mem} (E : EnM G X (some .int) (some (.int q.1)) q.2 0 0) {v3 : Int32} {M : Mem} (h : BM_goHome_52 v3 M = some q) : ZM G X 52 [(3, .int v3)] [] M 0 0 := by
  unfold BM_goHome_52 at h
  refine zz_iload_n C 0 ddM_goHome_52 rfl rfl ?_
  obtain rfl := Option.some.inj h
  exact zz_iret C E ddM_goHome_53
set_option maxHeartbeats 2000000 in
theorem xM_goHome {G : GXM} {l : Launch} (hG : GokM G) (d : Nat) (hd : 4 ≤ d) {v0 : Nat} {v1 : Int32} {v2 : Int32} {M : Mem} {q : Int32 × Mem} (h : fM_goHome v0 v1 v2 M = some q) : ExM G l d 0 0 yM_goHome cM_goHome 4 (some .int) [.ref v0, .int v1, .int v2] M (some (.int q.1)) q.2 := by
  refine ex_of hG (by decide) (Nat.le_of_ble_eq_true rfl) ?_
  intro X hl C E N hD hn
  show ZM G X 0 [(3, .int v3), (0, .ref v0), (1, .int v1), (2, .int v2)] [] M 0 0
  unfold fM_goHome at h
  refine zz_aload_n C 0 ddM_goHome_0 rfl rfl ?_
  obtain ⟨h1, h⟩ := gdN h
  obtain ⟨h2, h⟩ := gdN h
  refine zz_getr C ddM_goHome_1 fl_M_31 rfl h1 (of_decide_eq_true h2) ?_
  refine zz_iload_n C 1 ddM_goHome_4 rfl rfl ?_
  refine zz_iload_n C 2 ddM_goHome_5 rfl rfl ?_
  obtain ⟨q3, hq3, h⟩ := bindN h
  refine zz_callS0 (As := [.int v1, .int v2]) C ddM_goHome_6 wd_1425 my_M_boxAt mv_M_boxAt (xM_boxAt hG (d - 1) (by omega) hq3) (by omega) rfl rfl (Nat.le_of_ble_eq_true rfl) ?_
  obtain ⟨h4, h⟩ := gdN h
  refine zz_iaload C ddM_goHome_9 h4 ?_
  refine zz_istore_n (L1 := [(3, .int (giM q3.2 (grM M v0 15) (Int32.toNatClampNeg q3.1))), (0, .ref v0), (1, .int v1), (2, .int v2)]) C ddM_goHome_10 rfl N (by decide) rfl ?_
  refine zz_aload_n C 1 ddM_goHome_11 rfl rfl ?_
  refine zz_iload_n C 2 ddM_goHome_12 rfl rfl ?_
  refine zz_iload_n C 3 ddM_goHome_13 rfl rfl ?_
  obtain ⟨q5, hq5, h⟩ := bindN h
  refine zz_callS0 (As := [.int v1, .int v2]) C ddM_goHome_14 wd_1425 my_M_boxAt mv_M_boxAt (xM_boxAt hG (d - 1) (by omega) hq5) (by omega) rfl rfl (Nat.le_of_ble_eq_true rfl) ?_
  refine zz_iload_n C 3 ddM_goHome_17 rfl rfl ?_
  refine zz_iconst (v := 2) C ddM_goHome_18 (by decide) ?_
  obtain ⟨q6, hq6, h⟩ := bindN h
  refine zz_callS0 (As := [.int v2, .int 2]) C ddM_goHome_19 wd_1398 my_M_listAt mv_M_listAt (xM_listAt hG (d - 1) (by omega) hq6) (by omega) rfl rfl (Nat.le_of_ble_eq_true rfl) ?_
  obtain ⟨h8, h⟩ := gdN h
  obtain ⟨q7, hq7, h⟩ := bindN h
  refine zz_callV0 (As := [.int q5.1, .int q6.1]) C ddM_goHome_22 wd_1495 my_M_moveAhead mv_M_moveAhead ⟨_, rfl, rfl⟩ (xM_moveAhead hG (d - 1) (by omega) hq7) (by omega) h8 rfl rfl (Nat.le_of_ble_eq_true rfl) ?_
  refine zz_iload_n C 0 ddM_goHome_25 rfl rfl ?_
  refine zz_if_le (tgt := 52) C ddM_goHome_26 rfl (fun hc => ?_) (fun hc => ?_)
  · replace h := iteT h hc
    refine zz_loc (L1 := [(3, .int (giM q3.2 (grM M v0 15) (Int32.toNatClampNeg q3.1)))]) [0] rfl ?_
    exact zBM_goHome_52 hG C N hD hd E h
  · replace h := iteF h hc
    refine zz_aload_n C 1 ddM_goHome_29 rfl rfl ?_
    refine zz_iload_n C 3 ddM_goHome_30 rfl rfl ?_
    refine zz_iconst (v := 0) C ddM_goHome_31 (by decide) ?_
    obtain ⟨h10, h⟩ := gdN h
    obtain ⟨q9, hq9, h⟩ := bindN h
    refine zz_callV0 (As := [.int v2, .int 0]) C ddM_goHome_32 wd_1378 my_M_of mv_M_of ⟨_, rfl, rfl⟩ (xM_of hG (d - 1) (by omega) hq9) (by omega) h10 rfl rfl (Nat.le_of_ble_eq_true rfl) ?_
    refine zz_iconst (v := 3) C ddM_goHome_35 (by decide) ?_
    refine zz_icmp_ne (tgt := 52) C ddM_goHome_36 rfl (fun hc => ?_) (fun hc => ?_)
    · replace h := iteF h hc
      refine zz_loc (L1 := [(3, .int (giM q3.2 (grM M v0 15) (Int32.toNatClampNeg q3.1)))]) [0] rfl ?_
      exact zBM_goHome_52 hG C N hD hd E h
    · replace h := iteT h hc
      refine zz_aload_n C 1 ddM_goHome_39 rfl rfl ?_
      refine zz_iload_n C 3 ddM_goHome_40 rfl rfl ?_
      obtain ⟨h12, h⟩ := gdN h
      obtain ⟨q11, hq11, h⟩ := bindN h
      refine zz_callV0 (As := [.int v2]) C ddM_goHome_41 wd_1386 my_M_usedOf mv_M_usedOf ⟨_, rfl, rfl⟩ (xM_usedOf hG (d - 1) (by omega) hq11) (by omega) h12 rfl rfl (Nat.le_of_ble_eq_true rfl) ?_
      refine zz_if_ne (tgt := 52) C ddM_goHome_44 rfl (fun hc => ?_) (fun hc => ?_)
      · replace h := iteF h hc
        refine zz_loc (L1 := [(3, .int (giM q3.2 (grM M v0 15) (Int32.toNatClampNeg q3.1)))]) [0] rfl ?_
        exact zBM_goHome_52 hG C N hD hd E h
      · replace h := iteT h hc
        refine zz_aload_n C 1 ddM_goHome_47 rfl rfl ?_
        refine zz_iload_n C 3 ddM_goHome_48 rfl rfl ?_
        obtain ⟨h14, h⟩ := gdN h
        obtain ⟨q13, hq13, h⟩ := bindN h
        refine zz_callV0 (As := [.int v2]) C ddM_goHome_49 wd_1539 my_M_makeEmpty mv_M_makeEmpty ⟨_, rfl, rfl⟩ (xM_makeEmpty hG (d - 1) (by omega) hq13) (by omega) h14 rfl rfl (Nat.le_of_ble_eq_true rfl) ?_
        refine zz_loc (L1 := [(3, .int (giM q3.2 (grM M v0 15) (Int32.toNatClampNeg q3.1)))]) [0] rfl ?_
        exact zBM_goHome_52 hG C N hD hd E h
theorem ddM_sendNow_0 : decode cM_sendNow 0 = .ok (.iconst 0, 1) := by decide +kernel
theorem ddM_sendNow_1 : decode cM_sendNow 1 = .ok (.istore_n 2, 1) := by decide +kernel
theorem ddM_sendNow_2 : decode cM_sendNow 2 = .ok (.iconst 0, 1) := by decide +kernel
theorem ddM_sendNow_3 : decode cM_sendNow 3 = .ok (.istore_n 3, 1) := by decide +kernel
theorem ddM_sendNow_4 : decode cM_sendNow 4 = .ok (.iload_n 3, 1) := by decide +kernel
theorem ddM_sendNow_5 : decode cM_sendNow 5 = .ok (.aload_n 0, 1) := by decide +kernel
theorem ddM_sendNow_6 : decode cM_sendNow 6 = .ok (.getfield 19, 3) := by decide +kernel
theorem ddM_sendNow_9 : decode cM_sendNow 9 = .ok (.iconst 1, 1) := by decide +kernel
theorem ddM_sendNow_10 : decode cM_sendNow 10 = .ok (.iaload, 1) := by decide +kernel
theorem ddM_sendNow_11 : decode cM_sendNow 11 = .ok (.if_icmp .ge 18, 3) := by decide +kernel
theorem ddM_sendNow_14 : decode cM_sendNow 14 = .ok (.iload_n 2, 1) := by decide +kernel
theorem ddM_sendNow_15 : decode cM_sendNow 15 = .ok (.aload_n 0, 1) := by decide +kernel
theorem ddM_sendNow_16 : decode cM_sendNow 16 = .ok (.iload_n 1, 1) := by decide +kernel
theorem ddM_sendNow_17 : decode cM_sendNow 17 = .ok (.iload_n 3, 1) := by decide +kernel
theorem ddM_sendNow_18 : decode cM_sendNow 18 = .ok (.invokevirtual 247, 3) := by decide +kernel
theorem ddM_sendNow_21 : decode cM_sendNow 21 = .ok (.iadd, 1) := by decide +kernel
theorem ddM_sendNow_22 : decode cM_sendNow 22 = .ok (.istore_n 2, 1) := by decide +kernel
theorem ddM_sendNow_23 : decode cM_sendNow 23 = .ok (.iinc 3 1, 3) := by decide +kernel
theorem ddM_sendNow_26 : decode cM_sendNow 26 = .ok (.goto (-22), 3) := by decide +kernel
theorem ddM_sendNow_29 : decode cM_sendNow 29 = .ok (.iload_n 2, 1) := by decide +kernel
theorem ddM_sendNow_30 : decode cM_sendNow 30 = .ok (.ireturn, 1) := by decide +kernel
set_option maxHeartbeats 2000000 in
theorem zBM_sendNow_4 {G : GXM} {X : CxM} (hG : GokM G) (C : CoM G X cM_sendNow "HomeFreedModel") (N : mLM X = 4) {d : Nat} (hD : dpM X = d) (hd : 5 ≤ d) {v0 : Nat} {v1 : Int32} {K : Nat → Int32 → Int32 → Int32 → Mem → Option ((Int32 × Mem))} {q : (Int32 × Mem)} (hK : ∀ (v2 : Int32) (v3 : Int32) (M : Mem), K v0 v1 v2 v3 M = some q → ZM G X 4 [(0, .ref v0), (1, .int v1), (2, .int v2), (3, .int v3)] [] M 0 0) (hr : ∀ r : Int32 × Mem, q =  r → EnM G X (some .int) (some (.int r.1)) r.2 0 0) {v2 : Int32} {v3 : Int32} {M : Mem} (h : BM_sendNow_4 K v0 v1 v2 v3 M = some q) : ZM G X 4 [(0, .ref v0), (1, .int v1), (2, .int v2), (3, .int v3)] [] M 0 0 := by
  unfold BM_sendNow_4 at h
  refine zz_iload_n C 3 ddM_sendNow_4 rfl rfl ?_
  refine zz_aload_n C 0 ddM_sendNow_5 rfl rfl ?_
  obtain ⟨h1, h⟩ := gdN h
  obtain ⟨h2, h⟩ := gdN h
  refine zz_getr C ddM_sendNow_6 fl_M_19 rfl h1 (of_decide_eq_true h2) ?_
  refine zz_iconst (v := 1) C ddM_sendNow_9 (by decide) ?_
  obtain ⟨h3, h⟩ := gdN h
  refine zz_iaload C ddM_sendNow_10 h3 ?_
  refine zz_icmp_ge (tgt := 29) C ddM_sendNow_11 rfl (fun hc => ?_) (fun hc => ?_)
  · replace h := iteT h hc
    refine zz_iload_n C 2 ddM_sendNow_29 rfl rfl ?_
    exact zz_iret C (hr _ (Option.some.inj h).symm) ddM_sendNow_30
  · replace h := iteF h hc
    refine zz_iload_n C 2 ddM_sendNow_14 rfl rfl ?_
    refine zz_aload_n C 0 ddM_sendNow_15 rfl rfl ?_
    refine zz_iload_n C 1 ddM_sendNow_16 rfl rfl ?_
    refine zz_iload_n C 3 ddM_sendNow_17 rfl rfl ?_
    obtain ⟨q4, hq4, h⟩ := bindN h
    refine zz_callV0 (As := [.int v1, .int v3]) C ddM_sendNow_18 wd_1535 my_M_goHome mv_M_goHome ⟨_, rfl, rfl⟩ (xM_goHome hG (d - 1) (by omega) hq4) (by omega) h1 rfl rfl (Nat.le_of_ble_eq_true rfl) ?_
    refine zz_iadd C ddM_sendNow_21 ?_
    refine zz_istore_n (L1 := [(2, .int (v2 + q4.1)), (0, .ref v0), (1, .int v1), (3, .int v3)]) C ddM_sendNow_22 rfl N (by decide) rfl ?_
    refine zz_iinc (v := v3 + 1) (L1 := [(3, .int (v3 + 1)), (2, .int (v2 + q4.1)), (0, .ref v0), (1, .int v1)]) C 3 ddM_sendNow_23 rfl rfl N (by decide) rfl ?_
    refine zz_goto (tgt := 4) C ddM_sendNow_26 rfl ?_
    refine zz_loc (L1 := [(0, .ref v0), (1, .int v1), (2, .int (v2 + q4.1)), (3, .int (v3 + 1))]) [2, 3, 1, 0] rfl ?_
    exact hK _ _ _ h
set_option maxHeartbeats 2000000 in
theorem zLM_sendNow_4 {G : GXM} {X : CxM} (hG : GokM G) (C : CoM G X cM_sendNow "HomeFreedModel") (N : mLM X = 4) {d : Nat} (hD : dpM X = d) (hd : 5 ≤ d) {v0 : Nat} {v1 : Int32} {q : (Int32 × Mem)} : ∀ (f : Nat) (v2 : Int32) (v3 : Int32) (M : Mem), LM_sendNow_4 f v0 v1 v2 v3 M = some q → (hr : ∀ r : Int32 × Mem, q =  r → EnM G X (some .int) (some (.int r.1)) r.2 0 0) → ZM G X 4 [(0, .ref v0), (1, .int v1), (2, .int v2), (3, .int v3)] [] M 0 0 := by
  intro f
  induction f with
  | zero => intro v2 v3 M h; cases h
  | succ f ih =>
    intro v2 v3 M h hr
    exact zBM_sendNow_4 hG C N hD hd (K := LM_sendNow_4 f) (q := q) (fun v2 v3 M h => ih v2 v3 M h hr) hr h
set_option maxHeartbeats 2000000 in
theorem xM_sendNow {G : GXM} {l : Launch} (hG : GokM G) (d : Nat) (hd : 5 ≤ d) {v0 : Nat} {v1 : Int32} {M : Mem} {q : Int32 × Mem} (h : fM_sendNow v0 v1 M = some q) : ExM G l d 0 0 yM_sendNow cM_sendNow 4 (some .int) [.ref v0, .int v1] M (some (.int q.1)) q.2 := by
  refine ex_of hG (by decide) (Nat.le_of_ble_eq_true rfl) ?_
  intro X hl C E N hD hn
  show ZM G X 0 [(3, .int v3), (2, .int v2), (0, .ref v0), (1, .int v1)] [] M 0 0
  unfold fM_sendNow at h
  refine zz_iconst (v := 0) C ddM_sendNow_0 (by decide) ?_
  refine zz_istore_n (L1 := [(2, .int 0), (0, .ref v0), (1, .int v1)]) C ddM_sendNow_1 rfl N (by decide) rfl ?_
  refine zz_iconst (v := 0) C ddM_sendNow_2 (by decide) ?_
  refine zz_istore_n (L1 := [(3, .int 0), (2, .int 0), (0, .ref v0), (1, .int v1)]) C ddM_sendNow_3 rfl N (by decide) rfl ?_
  refine zz_loc (L1 := [(0, .ref v0), (1, .int v1), (2, .int 0), (3, .int 0)]) [2, 3, 1, 0] rfl ?_
  obtain ⟨q1, hq1, h⟩ := bindN h
  refine zLM_sendNow_4 hG C N hD hd 1000000 _ _ _ hq1 ?_
  · intro r2 eq1; subst eq1
    obtain rfl := Option.some.inj h
    exact E
theorem ddM_giveBack_0 : decode cM_giveBack 0 = .ok (.aload_n 0, 1) := by decide +kernel
theorem ddM_giveBack_1 : decode cM_giveBack 1 = .ok (.iload_n 1, 1) := by decide +kernel
theorem ddM_giveBack_2 : decode cM_giveBack 2 = .ok (.iconst 0, 1) := by decide +kernel
theorem ddM_giveBack_3 : decode cM_giveBack 3 = .ok (.invokevirtual 170, 3) := by decide +kernel
theorem ddM_giveBack_6 : decode cM_giveBack 6 = .ok (.iconst 1, 1) := by decide +kernel
theorem ddM_giveBack_7 : decode cM_giveBack 7 = .ok (.if_icmp .ne 30, 3) := by decide +kernel
theorem ddM_giveBack_10 : decode cM_giveBack 10 = .ok (.aload_n 0, 1) := by decide +kernel
theorem ddM_giveBack_11 : decode cM_giveBack 11 = .ok (.iload_n 1, 1) := by decide +kernel
theorem ddM_giveBack_12 : decode cM_giveBack 12 = .ok (.invokevirtual 201, 3) := by decide +kernel
theorem ddM_giveBack_15 : decode cM_giveBack 15 = .ok (.ifCond .ne 22, 3) := by decide +kernel
theorem ddM_giveBack_18 : decode cM_giveBack 18 = .ok (.aload_n 0, 1) := by decide +kernel
theorem ddM_giveBack_19 : decode cM_giveBack 19 = .ok (.getfield 31, 3) := by decide +kernel
theorem ddM_giveBack_22 : decode cM_giveBack 22 = .ok (.aload_n 0, 1) := by decide +kernel
theorem ddM_giveBack_23 : decode cM_giveBack 23 = .ok (.iload_n 1, 1) := by decide +kernel
theorem ddM_giveBack_24 : decode cM_giveBack 24 = .ok (.invokevirtual 189, 3) := by decide +kernel
theorem ddM_giveBack_27 : decode cM_giveBack 27 = .ok (.iaload, 1) := by decide +kernel
theorem ddM_giveBack_28 : decode cM_giveBack 28 = .ok (.iconst 1, 1) := by decide +kernel
theorem ddM_giveBack_29 : decode cM_giveBack 29 = .ok (.if_icmp .le 8, 3) := by decide +kernel
theorem ddM_giveBack_32 : decode cM_giveBack 32 = .ok (.aload_n 0, 1) := by decide +kernel
theorem ddM_giveBack_33 : decode cM_giveBack 33 = .ok (.iload_n 1, 1) := by decide +kernel
theorem ddM_giveBack_34 : decode cM_giveBack 34 = .ok (.invokevirtual 204, 3) := by decide +kernel
theorem ddM_giveBack_37 : decode cM_giveBack 37 = .ok (.return_, 1) := by decide +kernel
set_option maxHeartbeats 2000000 in
theorem zBM_giveBack_37 {G : GXM} {X : CxM} (hG : GokM G) (C : CoM G X cM_giveBack "HomeFreedModel") (N : mLM X = 2) {d : Nat} (hD : dpM X = d) (hd : 4 ≤ d)  {q : Mem} (E : EnM G X none none q 0 0) {M : Mem} (h : BM_giveBack_37 M = some q) : ZM G X 37 [] [] M 0 0 := by
  unfold BM_giveBack_37 at h
  obtain rfl := Option.some.inj h
  exact zz_vret C E ddM_giveBack_37
set_option maxHeartbeats 2000000 in
theorem xM_giveBack {G : GXM} {l : Launch} (hG : GokM G) (d : Nat) (hd : 4 ≤ d) {v0 : Nat} {v1 : Int32} {M : Mem} {q : Mem} (h : fM_giveBack v0 v1 M = some q) : ExM G l d 0 0 yM_giveBack cM_giveBack 2 none [.ref v0, .int v1] M none q := by
  refine ex_of hG (by decide) (Nat.le_of_ble_eq_true rfl) ?_
  intro X hl C E N hD hn
  show ZM G X 0 [(0, .ref v0), (1, .int v1)] [] M 0 0
  unfold fM_giveBack at h
  refine zz_aload_n C 0 ddM_giveBack_0 rfl rfl ?_
  refine zz_iload_n C 1 ddM_giveBack_1 rfl rfl ?_
  refine zz_iconst (v := 0) C ddM_giveBack_2 (by decide) ?_
  obtain ⟨h2, h⟩ := gdN h
  obtain ⟨q1, hq1, h⟩ := bindN h
  refine zz_callV0 (As := [.int v1, .int 0]) C ddM_giveBack_3 wd_1378 my_M_of mv_M_of ⟨_, rfl, rfl⟩ (xM_of hG (d - 1) (by omega) hq1) (by omega) h2 rfl rfl (Nat.le_of_ble_eq_true rfl) ?_
  refine zz_iconst (v := 1) C ddM_giveBack_6 (by decide) ?_
  refine zz_icmp_ne (tgt := 37) C ddM_giveBack_7 rfl (fun hc => ?_) (fun hc => ?_)
  · replace h := iteF h hc
    refine zz_loc (L1 := []) [] rfl ?_
    exact zBM_giveBack_37 hG C N hD hd E h
  · replace h := iteT h hc
    refine zz_aload_n C 0 ddM_giveBack_10 rfl rfl ?_
    refine zz_iload_n C 1 ddM_giveBack_11 rfl rfl ?_
    obtain ⟨h4, h⟩ := gdN h
    obtain ⟨q3, hq3, h⟩ := bindN h
    refine zz_callV0 (As := [.int v1]) C ddM_giveBack_12 wd_1386 my_M_usedOf mv_M_usedOf ⟨_, rfl, rfl⟩ (xM_usedOf hG (d - 1) (by omega) hq3) (by omega) h4 rfl rfl (Nat.le_of_ble_eq_true rfl) ?_
    refine zz_if_ne (tgt := 37) C ddM_giveBack_15 rfl (fun hc => ?_) (fun hc => ?_)
    · replace h := iteF h hc
      refine zz_loc (L1 := []) [] rfl ?_
      exact zBM_giveBack_37 hG C N hD hd E h
    · replace h := iteT h hc
      refine zz_aload_n C 0 ddM_giveBack_18 rfl rfl ?_
      obtain ⟨h5, h⟩ := gdN h
      obtain ⟨h6, h⟩ := gdN h
      refine zz_getr C ddM_giveBack_19 fl_M_31 rfl h5 (of_decide_eq_true h6) ?_
      refine zz_aload_n C 0 ddM_giveBack_22 rfl rfl ?_
      refine zz_iload_n C 1 ddM_giveBack_23 rfl rfl ?_
      obtain ⟨q7, hq7, h⟩ := bindN h
      refine zz_callV0 (As := [.int v1]) C ddM_giveBack_24 wd_1523 my_M_ownQueue mv_M_ownQueue ⟨_, rfl, rfl⟩ (xM_ownQueue hG (d - 1) (by omega) hq7) (by omega) h5 rfl rfl (Nat.le_of_ble_eq_true rfl) ?_
      obtain ⟨h8, h⟩ := gdN h
      refine zz_iaload C ddM_giveBack_27 h8 ?_
      refine zz_iconst (v := 1) C ddM_giveBack_28 (by decide) ?_
      refine zz_icmp_le (tgt := 37) C ddM_giveBack_29 rfl (fun hc => ?_) (fun hc => ?_)
      · replace h := iteT h hc
        refine zz_loc (L1 := []) [] rfl ?_
        exact zBM_giveBack_37 hG C N hD hd E h
      · replace h := iteF h hc
        refine zz_aload_n C 0 ddM_giveBack_32 rfl rfl ?_
        refine zz_iload_n C 1 ddM_giveBack_33 rfl rfl ?_
        obtain ⟨h10, h⟩ := gdN h
        obtain ⟨q9, hq9, h⟩ := bindN h
        refine zz_callV0 (As := [.int v1]) C ddM_giveBack_34 wd_1539 my_M_makeEmpty mv_M_makeEmpty ⟨_, rfl, rfl⟩ (xM_makeEmpty hG (d - 1) (by omega) hq9) (by omega) h10 rfl rfl (Nat.le_of_ble_eq_true rfl) ?_
        refine zz_loc (L1 := []) [] rfl ?_
        exact zBM_giveBack_37 hG C N hD hd E h
theorem ddM_tickNow_0 : decode cM_tickNow 0 = .ok (.aload_n 0, 1) := by decide +kernel
theorem ddM_tickNow_1 : decode cM_tickNow 1 = .ok (.iload_n 1, 1) := by decide +kernel
theorem ddM_tickNow_2 : decode cM_tickNow 2 = .ok (.invokevirtual 250, 3) := by decide +kernel
theorem ddM_tickNow_5 : decode cM_tickNow 5 = .ok (.pop, 1) := by decide +kernel
theorem ddM_tickNow_6 : decode cM_tickNow 6 = .ok (.iconst 0, 1) := by decide +kernel
theorem ddM_tickNow_7 : decode cM_tickNow 7 = .ok (.istore_n 2, 1) := by decide +kernel
theorem ddM_tickNow_8 : decode cM_tickNow 8 = .ok (.iload_n 2, 1) := by decide +kernel
theorem ddM_tickNow_9 : decode cM_tickNow 9 = .ok (.aload_n 0, 1) := by decide +kernel
theorem ddM_tickNow_10 : decode cM_tickNow 10 = .ok (.getfield 19, 3) := by decide +kernel
theorem ddM_tickNow_13 : decode cM_tickNow 13 = .ok (.iconst 1, 1) := by decide +kernel
theorem ddM_tickNow_14 : decode cM_tickNow 14 = .ok (.iaload, 1) := by decide +kernel
theorem ddM_tickNow_15 : decode cM_tickNow 15 = .ok (.if_icmp .ge 41, 3) := by decide +kernel
theorem ddM_tickNow_18 : decode cM_tickNow 18 = .ok (.aload_n 0, 1) := by decide +kernel
theorem ddM_tickNow_19 : decode cM_tickNow 19 = .ok (.iload_n 2, 1) := by decide +kernel
theorem ddM_tickNow_20 : decode cM_tickNow 20 = .ok (.iload_n 1, 1) := by decide +kernel
theorem ddM_tickNow_21 : decode cM_tickNow 21 = .ok (.invokevirtual 253, 3) := by decide +kernel
theorem ddM_tickNow_24 : decode cM_tickNow 24 = .ok (.ifCond .eq 26, 3) := by decide +kernel
theorem ddM_tickNow_27 : decode cM_tickNow 27 = .ok (.aload_n 0, 1) := by decide +kernel
theorem ddM_tickNow_28 : decode cM_tickNow 28 = .ok (.iload_n 2, 1) := by decide +kernel
theorem ddM_tickNow_29 : decode cM_tickNow 29 = .ok (.iconst 0, 1) := by decide +kernel
theorem ddM_tickNow_30 : decode cM_tickNow 30 = .ok (.invokevirtual 170, 3) := by decide +kernel
theorem ddM_tickNow_33 : decode cM_tickNow 33 = .ok (.iconst 2, 1) := by decide +kernel
theorem ddM_tickNow_34 : decode cM_tickNow 34 = .ok (.if_icmp .ne 16, 3) := by decide +kernel
theorem ddM_tickNow_37 : decode cM_tickNow 37 = .ok (.aload_n 0, 1) := by decide +kernel
theorem ddM_tickNow_38 : decode cM_tickNow 38 = .ok (.iload_n 2, 1) := by decide +kernel
theorem ddM_tickNow_39 : decode cM_tickNow 39 = .ok (.invokevirtual 179, 3) := by decide +kernel
theorem ddM_tickNow_42 : decode cM_tickNow 42 = .ok (.ifCond .le 8, 3) := by decide +kernel
theorem ddM_tickNow_45 : decode cM_tickNow 45 = .ok (.aload_n 0, 1) := by decide +kernel
theorem ddM_tickNow_46 : decode cM_tickNow 46 = .ok (.iload_n 2, 1) := by decide +kernel
theorem ddM_tickNow_47 : decode cM_tickNow 47 = .ok (.invokevirtual 226, 3) := by decide +kernel
theorem ddM_tickNow_50 : decode cM_tickNow 50 = .ok (.iinc 2 1, 3) := by decide +kernel
theorem ddM_tickNow_53 : decode cM_tickNow 53 = .ok (.goto (-45), 3) := by decide +kernel
theorem ddM_tickNow_56 : decode cM_tickNow 56 = .ok (.iconst 0, 1) := by decide +kernel
theorem ddM_tickNow_57 : decode cM_tickNow 57 = .ok (.istore_n 2, 1) := by decide +kernel
theorem ddM_tickNow_58 : decode cM_tickNow 58 = .ok (.iload_n 2, 1) := by decide +kernel
theorem ddM_tickNow_59 : decode cM_tickNow 59 = .ok (.aload_n 0, 1) := by decide +kernel
theorem ddM_tickNow_60 : decode cM_tickNow 60 = .ok (.getfield 19, 3) := by decide +kernel
theorem ddM_tickNow_63 : decode cM_tickNow 63 = .ok (.iconst 1, 1) := by decide +kernel
theorem ddM_tickNow_64 : decode cM_tickNow 64 = .ok (.iaload, 1) := by decide +kernel
theorem ddM_tickNow_65 : decode cM_tickNow 65 = .ok (.if_icmp .ge 23, 3) := by decide +kernel
theorem ddM_tickNow_68 : decode cM_tickNow 68 = .ok (.aload_n 0, 1) := by decide +kernel
theorem ddM_tickNow_69 : decode cM_tickNow 69 = .ok (.iload_n 2, 1) := by decide +kernel
theorem ddM_tickNow_70 : decode cM_tickNow 70 = .ok (.iload_n 1, 1) := by decide +kernel
theorem ddM_tickNow_71 : decode cM_tickNow 71 = .ok (.invokevirtual 253, 3) := by decide +kernel
theorem ddM_tickNow_74 : decode cM_tickNow 74 = .ok (.ifCond .eq 8, 3) := by decide +kernel
theorem ddM_tickNow_77 : decode cM_tickNow 77 = .ok (.aload_n 0, 1) := by decide +kernel
theorem ddM_tickNow_78 : decode cM_tickNow 78 = .ok (.iload_n 2, 1) := by decide +kernel
theorem ddM_tickNow_79 : decode cM_tickNow 79 = .ok (.invokevirtual 244, 3) := by decide +kernel
theorem ddM_tickNow_82 : decode cM_tickNow 82 = .ok (.iinc 2 1, 3) := by decide +kernel
theorem ddM_tickNow_85 : decode cM_tickNow 85 = .ok (.goto (-27), 3) := by decide +kernel
theorem ddM_tickNow_88 : decode cM_tickNow 88 = .ok (.return_, 1) := by decide +kernel
set_option maxHeartbeats 2000000 in
theorem zBM_tickNow_82 {G : GXM} {X : CxM} (hG : GokM G) (C : CoM G X cM_tickNow "HomeFreedModel") (N : mLM X = 3) {d : Nat} (hD : dpM X = d) (hd : 6 ≤ d) {v0 : Nat} {v1 : Int32} {K : Nat → Int32 → Int32 → Mem → Option ((Mem))} {q : (Mem)} (hK : ∀ (v2 : Int32) (M : Mem), K v0 v1 v2 M = some q → ZM G X 58 [(0, .ref v0), (1, .int v1), (2, .int v2)] [] M 0 0) (hr : ∀ r : Mem, q =  r → EnM G X none none r 0 0) {v2 : Int32} {M : Mem} (h : BM_tickNow_82 K v0 v1 v2 M = some q) : ZM G X 82 [(0, .ref v0), (1, .int v1), (2, .int v2)] [] M 0 0 := by
  unfold BM_tickNow_82 at h
  refine zz_iinc (v := v2 + 1) (L1 := [(2, .int (v2 + 1)), (0, .ref v0), (1, .int v1)]) C 2 ddM_tickNow_82 rfl rfl N (by decide) rfl ?_
  refine zz_goto (tgt := 58) C ddM_tickNow_85 rfl ?_
  refine zz_loc (L1 := [(0, .ref v0), (1, .int v1), (2, .int (v2 + 1))]) [1, 2, 0] rfl ?_
  exact hK _ _ h
set_option maxHeartbeats 2000000 in
theorem zBM_tickNow_58 {G : GXM} {X : CxM} (hG : GokM G) (C : CoM G X cM_tickNow "HomeFreedModel") (N : mLM X = 3) {d : Nat} (hD : dpM X = d) (hd : 6 ≤ d) {v0 : Nat} {v1 : Int32} {K : Nat → Int32 → Int32 → Mem → Option ((Mem))} {q : (Mem)} (hK : ∀ (v2 : Int32) (M : Mem), K v0 v1 v2 M = some q → ZM G X 58 [(0, .ref v0), (1, .int v1), (2, .int v2)] [] M 0 0) (hr : ∀ r : Mem, q =  r → EnM G X none none r 0 0) {v2 : Int32} {M : Mem} (h : BM_tickNow_58 K v0 v1 v2 M = some q) : ZM G X 58 [(0, .ref v0), (1, .int v1), (2, .int v2)] [] M 0 0 := by
  unfold BM_tickNow_58 at h
  refine zz_iload_n C 2 ddM_tickNow_58 rfl rfl ?_
  refine zz_aload_n C 0 ddM_tickNow_59 rfl rfl ?_
  obtain ⟨h1, h⟩ := gdN h
  obtain ⟨h2, h⟩ := gdN h
  refine zz_getr C ddM_tickNow_60 fl_M_19 rfl h1 (of_decide_eq_true h2) ?_
  refine zz_iconst (v := 1) C ddM_tickNow_63 (by decide) ?_
  obtain ⟨h3, h⟩ := gdN h
  refine zz_iaload C ddM_tickNow_64 h3 ?_
  refine zz_icmp_ge (tgt := 88) C ddM_tickNow_65 rfl (fun hc => ?_) (fun hc => ?_)
  · replace h := iteT h hc
    exact zz_vret C (hr _ (Option.some.inj h).symm) ddM_tickNow_88
  · replace h := iteF h hc
    refine zz_aload_n C 0 ddM_tickNow_68 rfl rfl ?_
    refine zz_iload_n C 2 ddM_tickNow_69 rfl rfl ?_
    refine zz_iload_n C 1 ddM_tickNow_70 rfl rfl ?_
    obtain ⟨q4, hq4, h⟩ := bindN h
    refine zz_callV0 (As := [.int v2, .int v1]) C ddM_tickNow_71 wd_1417 my_M_isOf mv_M_isOf ⟨_, rfl, rfl⟩ (xM_isOf hG (d - 1) (by omega) hq4) (by omega) h1 rfl rfl (Nat.le_of_ble_eq_true rfl) ?_
    refine zz_if_eq (tgt := 82) C ddM_tickNow_74 rfl (fun hc => ?_) (fun hc => ?_)
    · replace h := iteT h hc
      exact zBM_tickNow_82 hG C N hD hd hK hr h
    · replace h := iteF h hc
      refine zz_aload_n C 0 ddM_tickNow_77 rfl rfl ?_
      refine zz_iload_n C 2 ddM_tickNow_78 rfl rfl ?_
      obtain ⟨h6, h⟩ := gdN h
      obtain ⟨q5, hq5, h⟩ := bindN h
      refine zz_callV0 (As := [.int v2]) C ddM_tickNow_79 wd_1551 my_M_giveBack mv_M_giveBack ⟨_, rfl, rfl⟩ (xM_giveBack hG (d - 1) (by omega) hq5) (by omega) h6 rfl rfl (Nat.le_of_ble_eq_true rfl) ?_
      exact zBM_tickNow_82 hG C N hD hd hK hr h
set_option maxHeartbeats 2000000 in
theorem zLM_tickNow_58 {G : GXM} {X : CxM} (hG : GokM G) (C : CoM G X cM_tickNow "HomeFreedModel") (N : mLM X = 3) {d : Nat} (hD : dpM X = d) (hd : 6 ≤ d) {v0 : Nat} {v1 : Int32} {q : (Mem)} : ∀ (f : Nat) (v2 : Int32) (M : Mem), LM_tickNow_58 f v0 v1 v2 M = some q → (hr : ∀ r : Mem, q =  r → EnM G X none none r 0 0) → ZM G X 58 [(0, .ref v0), (1, .int v1), (2, .int v2)] [] M 0 0 := by
  intro f
  induction f with
  | zero => intro v2 M h; cases h
  | succ f ih =>
    intro v2 M h hr
    exact zBM_tickNow_58 hG C N hD hd (K := LM_tickNow_58 f) (q := q) (fun v2 M h => ih v2 M h hr) hr h
set_option maxHeartbeats 2000000 in
theorem zBM_tickNow_50 {G : GXM} {X : CxM} (hG : GokM G) (C : CoM G X cM_tickNow "HomeFreedModel") (N : mLM X = 3) {d : Nat} (hD : dpM X = d) (hd : 6 ≤ d) {v0 : Nat} {v1 : Int32} {K : Nat → Int32 → Int32 → Mem → Option ((Mem))} {q : (Mem)} (hK : ∀ (v2 : Int32) (M : Mem), K v0 v1 v2 M = some q → ZM G X 8 [(0, .ref v0), (1, .int v1), (2, .int v2)] [] M 0 0) (hx0 : ∀ y : Mem, q = y → ZM G X 56 [(0, .ref v0), (1, .int v1)] [] y 0 0) {v2 : Int32} {M : Mem} (h : BM_tickNow_50 K v0 v1 v2 M = some q) : ZM G X 50 [(0, .ref v0), (1, .int v1), (2, .int v2)] [] M 0 0 := by
  unfold BM_tickNow_50 at h
  refine zz_iinc (v := v2 + 1) (L1 := [(2, .int (v2 + 1)), (0, .ref v0), (1, .int v1)]) C 2 ddM_tickNow_50 rfl rfl N (by decide) rfl ?_
  refine zz_goto (tgt := 8) C ddM_tickNow_53 rfl ?_
  refine zz_loc (L1 := [(0, .ref v0), (1, .int v1), (2, .int (v2 + 1))]) [1, 2, 0] rfl ?_
  exact hK _ _ h
set_option maxHeartbeats 2000000 in
theorem zBM_tickNow_8 {G : GXM} {X : CxM} (hG : GokM G) (C : CoM G X cM_tickNow "HomeFreedModel") (N : mLM X = 3) {d : Nat} (hD : dpM X = d) (hd : 6 ≤ d) {v0 : Nat} {v1 : Int32} {K : Nat → Int32 → Int32 → Mem → Option ((Mem))} {q : (Mem)} (hK : ∀ (v2 : Int32) (M : Mem), K v0 v1 v2 M = some q → ZM G X 8 [(0, .ref v0), (1, .int v1), (2, .int v2)] [] M 0 0) (hx0 : ∀ y : Mem, q = y → ZM G X 56 [(0, .ref v0), (1, .int v1)] [] y 0 0) {v2 : Int32} {M : Mem} (h : BM_tickNow_8 K v0 v1 v2 M = some q) : ZM G X 8 [(0, .ref v0), (1, .int v1), (2, .int v2)] [] M 0 0 := by
  unfold BM_tickNow_8 at h
  refine zz_iload_n C 2 ddM_tickNow_8 rfl rfl ?_
  refine zz_aload_n C 0 ddM_tickNow_9 rfl rfl ?_
  obtain ⟨h1, h⟩ := gdN h
  obtain ⟨h2, h⟩ := gdN h
  refine zz_getr C ddM_tickNow_10 fl_M_19 rfl h1 (of_decide_eq_true h2) ?_
  refine zz_iconst (v := 1) C ddM_tickNow_13 (by decide) ?_
  obtain ⟨h3, h⟩ := gdN h
  refine zz_iaload C ddM_tickNow_14 h3 ?_
  refine zz_icmp_ge (tgt := 56) C ddM_tickNow_15 rfl (fun hc => ?_) (fun hc => ?_)
  · replace h := iteT h hc
    refine zz_loc (L1 := [(0, .ref v0), (1, .int v1)]) [0, 1] rfl ?_
    exact hx0 _ (Option.some.inj h).symm
  · replace h := iteF h hc
    refine zz_aload_n C 0 ddM_tickNow_18 rfl rfl ?_
    refine zz_iload_n C 2 ddM_tickNow_19 rfl rfl ?_
    refine zz_iload_n C 1 ddM_tickNow_20 rfl rfl ?_
    obtain ⟨q4, hq4, h⟩ := bindN h
    refine zz_callV0 (As := [.int v2, .int v1]) C ddM_tickNow_21 wd_1417 my_M_isOf mv_M_isOf ⟨_, rfl, rfl⟩ (xM_isOf hG (d - 1) (by omega) hq4) (by omega) h1 rfl rfl (Nat.le_of_ble_eq_true rfl) ?_
    refine zz_if_eq (tgt := 50) C ddM_tickNow_24 rfl (fun hc => ?_) (fun hc => ?_)
    · replace h := iteT h hc
      exact zBM_tickNow_50 hG C N hD hd hK hx0 h
    · replace h := iteF h hc
      refine zz_aload_n C 0 ddM_tickNow_27 rfl rfl ?_
      refine zz_iload_n C 2 ddM_tickNow_28 rfl rfl ?_
      refine zz_iconst (v := 0) C ddM_tickNow_29 (by decide) ?_
      obtain ⟨h6, h⟩ := gdN h
      obtain ⟨q5, hq5, h⟩ := bindN h
      refine zz_callV0 (As := [.int v2, .int 0]) C ddM_tickNow_30 wd_1378 my_M_of mv_M_of ⟨_, rfl, rfl⟩ (xM_of hG (d - 1) (by omega) hq5) (by omega) h6 rfl rfl (Nat.le_of_ble_eq_true rfl) ?_
      refine zz_iconst (v := 2) C ddM_tickNow_33 (by decide) ?_
      refine zz_icmp_ne (tgt := 50) C ddM_tickNow_34 rfl (fun hc => ?_) (fun hc => ?_)
      · replace h := iteF h hc
        exact zBM_tickNow_50 hG C N hD hd hK hx0 h
      · replace h := iteT h hc
        refine zz_aload_n C 0 ddM_tickNow_37 rfl rfl ?_
        refine zz_iload_n C 2 ddM_tickNow_38 rfl rfl ?_
        obtain ⟨h8, h⟩ := gdN h
        obtain ⟨q7, hq7, h⟩ := bindN h
        refine zz_callV0 (As := [.int v2]) C ddM_tickNow_39 wd_1394 my_M_listedOf mv_M_listedOf ⟨_, rfl, rfl⟩ (xM_listedOf hG (d - 1) (by omega) hq7) (by omega) h8 rfl rfl (Nat.le_of_ble_eq_true rfl) ?_
        refine zz_if_le (tgt := 50) C ddM_tickNow_42 rfl (fun hc => ?_) (fun hc => ?_)
        · replace h := iteT h hc
          exact zBM_tickNow_50 hG C N hD hd hK hx0 h
        · replace h := iteF h hc
          refine zz_aload_n C 0 ddM_tickNow_45 rfl rfl ?_
          refine zz_iload_n C 2 ddM_tickNow_46 rfl rfl ?_
          obtain ⟨h10, h⟩ := gdN h
          obtain ⟨q9, hq9, h⟩ := bindN h
          refine zz_callV0 (As := [.int v2]) C ddM_tickNow_47 wd_1519 my_M_enqueue mv_M_enqueue ⟨_, rfl, rfl⟩ (xM_enqueue hG (d - 1) (by omega) hq9) (by omega) h10 rfl rfl (Nat.le_of_ble_eq_true rfl) ?_
          exact zBM_tickNow_50 hG C N hD hd hK hx0 h
set_option maxHeartbeats 2000000 in
theorem zLM_tickNow_8 {G : GXM} {X : CxM} (hG : GokM G) (C : CoM G X cM_tickNow "HomeFreedModel") (N : mLM X = 3) {d : Nat} (hD : dpM X = d) (hd : 6 ≤ d) {v0 : Nat} {v1 : Int32} {q : (Mem)} : ∀ (f : Nat) (v2 : Int32) (M : Mem), LM_tickNow_8 f v0 v1 v2 M = some q → (hx0 : ∀ y : Mem, q = y → ZM G X 56 [(0, .ref v0), (1, .int v1)] [] y 0 0) → ZM G X 8 [(0, .ref v0), (1, .int v1), (2, .int v2)] [] M 0 0 := by
  intro f
  induction f with
  | zero => intro v2 M h; cases h
  | succ f ih =>
    intro v2 M h hx0
    exact zBM_tickNow_8 hG C N hD hd (K := LM_tickNow_8 f) (q := q) (fun v2 M h => ih v2 M h hx0) hx0 h
set_option maxHeartbeats 2000000 in
theorem xM_tickNow {G : GXM} {l : Launch} (hG : GokM G) (d : Nat) (hd : 6 ≤ d) {v0 : Nat} {v1 : Int32} {M : Mem} {q : Mem} (h : fM_tickNow v0 v1 M = some q) : ExM G l d 0 0 yM_tickNow cM_tickNow 3 none [.ref v0, .int v1] M none q := by
  refine ex_of hG (by decide) (Nat.le_of_ble_eq_true rfl) ?_
  intro X hl C E N hD hn
  show ZM G X 0 [(2, .int v2), (0, .ref v0), (1, .int v1)] [] M 0 0
  unfold fM_tickNow at h
  refine zz_aload_n C 0 ddM_tickNow_0 rfl rfl ?_
  refine zz_iload_n C 1 ddM_tickNow_1 rfl rfl ?_
  obtain ⟨h2, h⟩ := gdN h
  obtain ⟨q1, hq1, h⟩ := bindN h
  refine zz_callV0 (As := [.int v1]) C ddM_tickNow_2 wd_1531 my_M_sendNow mv_M_sendNow ⟨_, rfl, rfl⟩ (xM_sendNow hG (d - 1) (by omega) hq1) (by omega) h2 rfl rfl (Nat.le_of_ble_eq_true rfl) ?_
  refine zz_pop C ddM_tickNow_5 rfl ?_
  refine zz_iconst (v := 0) C ddM_tickNow_6 (by decide) ?_
  refine zz_istore_n (L1 := [(2, .int 0), (0, .ref v0), (1, .int v1)]) C ddM_tickNow_7 rfl N (by decide) rfl ?_
  refine zz_loc (L1 := [(0, .ref v0), (1, .int v1), (2, .int 0)]) [1, 2, 0] rfl ?_
  obtain ⟨q3, hq3, h⟩ := bindN h
  refine zLM_tickNow_8 hG C N hD hd 1000000 _ _ hq3 ?_
  · intro y4 eq3; subst eq3
    refine zz_iconst (v := 0) C ddM_tickNow_56 (by decide) ?_
    refine zz_istore_n (L1 := [(2, .int 0), (0, .ref v0), (1, .int v1)]) C ddM_tickNow_57 rfl N (by decide) rfl ?_
    refine zz_loc (L1 := [(0, .ref v0), (1, .int v1), (2, .int 0)]) [1, 2, 0] rfl ?_
    obtain ⟨q5, hq5, h⟩ := bindN h
    refine zLM_tickNow_58 hG C N hD hd 1000000 _ _ hq5 ?_
    · intro r6 eq5; subst eq5
      obtain rfl := Option.some.inj h
      exact E
theorem ddM_getNow_0 : decode cM_getNow 0 = .ok (.aload_n 0, 1) := by decide +kernel
theorem ddM_getNow_1 : decode cM_getNow 1 = .ok (.iload_n 1, 1) := by decide +kernel
theorem ddM_getNow_2 : decode cM_getNow 2 = .ok (.iload_n 2, 1) := by decide +kernel
theorem ddM_getNow_3 : decode cM_getNow 3 = .ok (.invokevirtual 229, 3) := by decide +kernel
theorem ddM_getNow_6 : decode cM_getNow 6 = .ok (.ifCond .ne 5, 3) := by decide +kernel
theorem ddM_getNow_9 : decode cM_getNow 9 = .ok (.iconst (-1), 1) := by decide +kernel
theorem ddM_getNow_10 : decode cM_getNow 10 = .ok (.ireturn, 1) := by decide +kernel
theorem ddM_getNow_11 : decode cM_getNow 11 = .ok (.aload_n 0, 1) := by decide +kernel
theorem ddM_getNow_12 : decode cM_getNow 12 = .ok (.iload_n 1, 1) := by decide +kernel
theorem ddM_getNow_13 : decode cM_getNow 13 = .ok (.iload_n 2, 1) := by decide +kernel
theorem ddM_getNow_14 : decode cM_getNow 14 = .ok (.invokevirtual 232, 3) := by decide +kernel
theorem ddM_getNow_17 : decode cM_getNow 17 = .ok (.istore_n 3, 1) := by decide +kernel
theorem ddM_getNow_18 : decode cM_getNow 18 = .ok (.aload_n 0, 1) := by decide +kernel
theorem ddM_getNow_19 : decode cM_getNow 19 = .ok (.getfield 217, 3) := by decide +kernel
theorem ddM_getNow_22 : decode cM_getNow 22 = .ok (.istore 4, 2) := by decide +kernel
theorem ddM_getNow_24 : decode cM_getNow 24 = .ok (.aload_n 0, 1) := by decide +kernel
theorem ddM_getNow_25 : decode cM_getNow 25 = .ok (.getfield 31, 3) := by decide +kernel
theorem ddM_getNow_28 : decode cM_getNow 28 = .ok (.sipush 3708, 3) := by decide +kernel
theorem ddM_getNow_31 : decode cM_getNow 31 = .ok (.iload_n 1, 1) := by decide +kernel
theorem ddM_getNow_32 : decode cM_getNow 32 = .ok (.iadd, 1) := by decide +kernel
theorem ddM_getNow_33 : decode cM_getNow 33 = .ok (.dup2, 1) := by decide +kernel
theorem ddM_getNow_34 : decode cM_getNow 34 = .ok (.iaload, 1) := by decide +kernel
theorem ddM_getNow_35 : decode cM_getNow 35 = .ok (.iconst 1, 1) := by decide +kernel
theorem ddM_getNow_36 : decode cM_getNow 36 = .ok (.iadd, 1) := by decide +kernel
theorem ddM_getNow_37 : decode cM_getNow 37 = .ok (.iastore, 1) := by decide +kernel
theorem ddM_getNow_38 : decode cM_getNow 38 = .ok (.aload_n 0, 1) := by decide +kernel
theorem ddM_getNow_39 : decode cM_getNow 39 = .ok (.getfield 31, 3) := by decide +kernel
theorem ddM_getNow_42 : decode cM_getNow 42 = .ok (.sipush 3708, 3) := by decide +kernel
theorem ddM_getNow_45 : decode cM_getNow 45 = .ok (.iload_n 1, 1) := by decide +kernel
theorem ddM_getNow_46 : decode cM_getNow 46 = .ok (.iadd, 1) := by decide +kernel
theorem ddM_getNow_47 : decode cM_getNow 47 = .ok (.iaload, 1) := by decide +kernel
theorem ddM_getNow_48 : decode cM_getNow 48 = .ok (.aload_n 0, 1) := by decide +kernel
theorem ddM_getNow_49 : decode cM_getNow 49 = .ok (.getfield 19, 3) := by decide +kernel
theorem ddM_getNow_52 : decode cM_getNow 52 = .ok (.iconst 4, 1) := by decide +kernel
theorem ddM_getNow_53 : decode cM_getNow 53 = .ok (.iaload, 1) := by decide +kernel
theorem ddM_getNow_54 : decode cM_getNow 54 = .ok (.irem, 1) := by decide +kernel
theorem ddM_getNow_55 : decode cM_getNow 55 = .ok (.ifCond .ne 8, 3) := by decide +kernel
theorem ddM_getNow_58 : decode cM_getNow 58 = .ok (.aload_n 0, 1) := by decide +kernel
theorem ddM_getNow_59 : decode cM_getNow 59 = .ok (.iload_n 1, 1) := by decide +kernel
theorem ddM_getNow_60 : decode cM_getNow 60 = .ok (.invokevirtual 235, 3) := by decide +kernel
theorem ddM_getNow_63 : decode cM_getNow 63 = .ok (.aload_n 0, 1) := by decide +kernel
theorem ddM_getNow_64 : decode cM_getNow 64 = .ok (.iload 4, 2) := by decide +kernel
theorem ddM_getNow_66 : decode cM_getNow 66 = .ok (.putfield 217, 3) := by decide +kernel
theorem ddM_getNow_69 : decode cM_getNow 69 = .ok (.iload_n 3, 1) := by decide +kernel
theorem ddM_getNow_70 : decode cM_getNow 70 = .ok (.ireturn, 1) := by decide +kernel
set_option maxHeartbeats 2000000 in
theorem zBM_getNow_63 {G : GXM} {X : CxM} (hG : GokM G) (C : CoM G X cM_getNow "HomeFreedModel") (N : mLM X = 5) {d : Nat} (hD : dpM X = d) (hd : 7 ≤ d)  {q : Int32 × Mem} (E : EnM G X (some .int) (some (.int q.1)) q.2 0 0) {v0 : Nat} {v3 : Int32} {v4 : Int32} {M : Mem} (h : BM_getNow_63 v0 v3 v4 M = some q) : ZM G X 63 [(0, .ref v0), (3, .int v3), (4, .int v4)] [] M 0 0 := by
  unfold BM_getNow_63 at h
  refine zz_aload_n C 0 ddM_getNow_63 rfl rfl ?_
  refine zz_iload C 2 ddM_getNow_64 rfl ?_
  obtain ⟨h1, h⟩ := gdN h
  refine zz_puti C ddM_getNow_66 fl_M_217 rfl rfl rfl h1 ?_
  refine zz_iload_n C 1 ddM_getNow_69 rfl rfl ?_
  obtain rfl := Option.some.inj h
  exact zz_iret C E ddM_getNow_70
set_option maxHeartbeats 2000000 in
theorem xM_getNow {G : GXM} {l : Launch} (hG : GokM G) (d : Nat) (hd : 7 ≤ d) {v0 : Nat} {v1 : Int32} {v2 : Int32} {M : Mem} {q : Int32 × Mem} (h : fM_getNow v0 v1 v2 M = some q) : ExM G l d 0 0 yM_getNow cM_getNow 5 (some .int) [.ref v0, .int v1, .int v2] M (some (.int q.1)) q.2 := by
  refine ex_of hG (by decide) (Nat.le_of_ble_eq_true rfl) ?_
  intro X hl C E N hD hn
  show ZM G X 0 [(0, .ref v0), (1, .int v1), (2, .int v2)] [] M 0 0
  unfold fM_getNow at h
  refine zz_aload_n C 0 ddM_getNow_0 rfl rfl ?_
  refine zz_iload_n C 1 ddM_getNow_1 rfl rfl ?_
  refine zz_iload_n C 2 ddM_getNow_2 rfl rfl ?_
  obtain ⟨h2, h⟩ := gdN h
  obtain ⟨q1, hq1, h⟩ := bindN h
  refine zz_callV0 (As := [.int v1, .int v2]) C ddM_getNow_3 wd_1467 my_M_canGet mv_M_canGet ⟨_, rfl, rfl⟩ (xM_canGet hG (d - 1) (by omega) hq1) (by omega) h2 rfl rfl (Nat.le_of_ble_eq_true rfl) ?_
  refine zz_if_ne (tgt := 11) C ddM_getNow_6 rfl (fun hc => ?_) (fun hc => ?_)
  · replace h := iteF h hc
    refine zz_aload_n C 0 ddM_getNow_11 rfl rfl ?_
    refine zz_iload_n C 1 ddM_getNow_12 rfl rfl ?_
    refine zz_iload_n C 2 ddM_getNow_13 rfl rfl ?_
    obtain ⟨h4, h⟩ := gdN h
    obtain ⟨q3, hq3, h⟩ := bindN h
    refine zz_callV0 (As := [.int v1, .int v2]) C ddM_getNow_14 wd_1487 my_M_getOnce mv_M_getOnce ⟨_, rfl, rfl⟩ (xM_getOnce hG (d - 1) (by omega) hq3) (by omega) h4 rfl rfl (Nat.le_of_ble_eq_true rfl) ?_
    refine zz_istore_n (L1 := [(3, .int q3.1), (0, .ref v0), (1, .int v1), (2, .int v2)]) C ddM_getNow_17 rfl N (by decide) rfl ?_
    refine zz_aload_n C 1 ddM_getNow_18 rfl rfl ?_
    obtain ⟨h5, h⟩ := gdN h
    refine zz_geti C ddM_getNow_19 fl_M_217 rfl h5 ?_
    refine zz_istore (L1 := [(4, .int (giM q3.2 v0 17)), (3, .int q3.1), (0, .ref v0), (1, .int v1), (2, .int v2)]) C ddM_getNow_22 N (by decide) rfl ?_
    refine zz_aload_n C 2 ddM_getNow_24 rfl rfl ?_
    obtain ⟨h6, h⟩ := gdN h
    refine zz_getr C ddM_getNow_25 fl_M_31 rfl h5 (of_decide_eq_true h6) ?_
    refine zz_sipush (v := 3708) C ddM_getNow_28 (by decide) ?_
    refine zz_iload_n C 3 ddM_getNow_31 rfl rfl ?_
    refine zz_iadd C ddM_getNow_32 ?_
    refine zz_dup2 C ddM_getNow_33 rfl rfl ?_
    obtain ⟨h7, h⟩ := gdN h
    refine zz_iaload C ddM_getNow_34 h7 ?_
    refine zz_iconst (v := 1) C ddM_getNow_35 (by decide) ?_
    refine zz_iadd C ddM_getNow_36 ?_
    obtain ⟨h8, h⟩ := gdN h
    refine zz_iastore C ddM_getNow_37 h8 ?_
    refine zz_aload_n C 2 ddM_getNow_38 rfl rfl ?_
    refine zz_getr C ddM_getNow_39 fl_M_31 rfl h5 (of_decide_eq_true h6) ?_
    refine zz_sipush (v := 3708) C ddM_getNow_42 (by decide) ?_
    refine zz_iload_n C 3 ddM_getNow_45 rfl rfl ?_
    refine zz_iadd C ddM_getNow_46 ?_
    refine zz_iaload C ddM_getNow_47 h7 ?_
    refine zz_aload_n C 2 ddM_getNow_48 rfl rfl ?_
    obtain ⟨h9, h⟩ := gdN h
    refine zz_getr C ddM_getNow_49 fl_M_19 rfl h5 (of_decide_eq_true h9) ?_
    refine zz_iconst (v := 4) C ddM_getNow_52 (by decide) ?_
    obtain ⟨h10, h⟩ := gdN h
    refine zz_iaload C ddM_getNow_53 h10 ?_
    obtain ⟨h11, h⟩ := gdN h
    refine zz_irem C ddM_getNow_54 (of_decide_eq_true h11) ?_
    refine zz_if_ne (tgt := 63) C ddM_getNow_55 rfl (fun hc => ?_) (fun hc => ?_)
    · replace h := iteF h hc
      refine zz_loc (L1 := [(0, .ref v0), (3, .int q3.1), (4, .int (giM q3.2 v0 17))]) [2, 1, 0] rfl ?_
      exact zBM_getNow_63 hG C N hD hd E h
    · replace h := iteT h hc
      refine zz_aload_n C 2 ddM_getNow_58 rfl rfl ?_
      refine zz_iload_n C 3 ddM_getNow_59 rfl rfl ?_
      obtain ⟨q12, hq12, h⟩ := bindN h
      refine zz_callV0 (As := [.int v1]) C ddM_getNow_60 wd_1527 my_M_tickNow mv_M_tickNow ⟨_, rfl, rfl⟩ (xM_tickNow hG (d - 1) (by omega) hq12) (by omega) h5 rfl rfl (Nat.le_of_ble_eq_true rfl) ?_
      refine zz_loc (L1 := [(0, .ref v0), (3, .int q3.1), (4, .int (giM q3.2 v0 17))]) [2, 1, 0] rfl ?_
      exact zBM_getNow_63 hG C N hD hd E h
  · replace h := iteT h hc
    refine zz_iconst (v := (-1)) C ddM_getNow_9 (by decide) ?_
    obtain rfl := Option.some.inj h
    exact zz_iret C E ddM_getNow_10
theorem ddM_note_0 : decode cM_note 0 = .ok (.aload_n 0, 1) := by decide +kernel
theorem ddM_note_1 : decode cM_note 1 = .ok (.getfield 31, 3) := by decide +kernel
theorem ddM_note_4 : decode cM_note 4 = .ok (.sipush 3712, 3) := by decide +kernel
theorem ddM_note_7 : decode cM_note 7 = .ok (.iaload, 1) := by decide +kernel
theorem ddM_note_8 : decode cM_note 8 = .ok (.bipush 60, 2) := by decide +kernel
theorem ddM_note_10 : decode cM_note 10 = .ok (.if_icmp .ne 52, 3) := by decide +kernel
theorem ddM_note_13 : decode cM_note 13 = .ok (.iconst 3, 1) := by decide +kernel
theorem ddM_note_14 : decode cM_note 14 = .ok (.istore_n 3, 1) := by decide +kernel
theorem ddM_note_15 : decode cM_note 15 = .ok (.iload_n 3, 1) := by decide +kernel
theorem ddM_note_16 : decode cM_note 16 = .ok (.sipush 180, 3) := by decide +kernel
theorem ddM_note_19 : decode cM_note 19 = .ok (.if_icmp .ge 31, 3) := by decide +kernel
theorem ddM_note_22 : decode cM_note 22 = .ok (.aload_n 0, 1) := by decide +kernel
theorem ddM_note_23 : decode cM_note 23 = .ok (.getfield 31, 3) := by decide +kernel
theorem ddM_note_26 : decode cM_note 26 = .ok (.sipush 3713, 3) := by decide +kernel
theorem ddM_note_29 : decode cM_note 29 = .ok (.iload_n 3, 1) := by decide +kernel
theorem ddM_note_30 : decode cM_note 30 = .ok (.iadd, 1) := by decide +kernel
theorem ddM_note_31 : decode cM_note 31 = .ok (.iconst 3, 1) := by decide +kernel
theorem ddM_note_32 : decode cM_note 32 = .ok (.isub, 1) := by decide +kernel
theorem ddM_note_33 : decode cM_note 33 = .ok (.aload_n 0, 1) := by decide +kernel
theorem ddM_note_34 : decode cM_note 34 = .ok (.getfield 31, 3) := by decide +kernel
theorem ddM_note_37 : decode cM_note 37 = .ok (.sipush 3713, 3) := by decide +kernel
theorem ddM_note_40 : decode cM_note 40 = .ok (.iload_n 3, 1) := by decide +kernel
theorem ddM_note_41 : decode cM_note 41 = .ok (.iadd, 1) := by decide +kernel
theorem ddM_note_42 : decode cM_note 42 = .ok (.iaload, 1) := by decide +kernel
theorem ddM_note_43 : decode cM_note 43 = .ok (.iastore, 1) := by decide +kernel
theorem ddM_note_44 : decode cM_note 44 = .ok (.iinc 3 1, 3) := by decide +kernel
theorem ddM_note_47 : decode cM_note 47 = .ok (.goto (-32), 3) := by decide +kernel
theorem ddM_note_50 : decode cM_note 50 = .ok (.aload_n 0, 1) := by decide +kernel
theorem ddM_note_51 : decode cM_note 51 = .ok (.getfield 31, 3) := by decide +kernel
theorem ddM_note_54 : decode cM_note 54 = .ok (.sipush 3712, 3) := by decide +kernel
theorem ddM_note_57 : decode cM_note 57 = .ok (.dup2, 1) := by decide +kernel
theorem ddM_note_58 : decode cM_note 58 = .ok (.iaload, 1) := by decide +kernel
theorem ddM_note_59 : decode cM_note 59 = .ok (.iconst 1, 1) := by decide +kernel
theorem ddM_note_60 : decode cM_note 60 = .ok (.isub, 1) := by decide +kernel
theorem ddM_note_61 : decode cM_note 61 = .ok (.iastore, 1) := by decide +kernel
theorem ddM_note_62 : decode cM_note 62 = .ok (.sipush 3713, 3) := by decide +kernel
theorem ddM_note_65 : decode cM_note 65 = .ok (.iconst 3, 1) := by decide +kernel
theorem ddM_note_66 : decode cM_note 66 = .ok (.aload_n 0, 1) := by decide +kernel
theorem ddM_note_67 : decode cM_note 67 = .ok (.getfield 31, 3) := by decide +kernel
theorem ddM_note_70 : decode cM_note 70 = .ok (.sipush 3712, 3) := by decide +kernel
theorem ddM_note_73 : decode cM_note 73 = .ok (.iaload, 1) := by decide +kernel
theorem ddM_note_74 : decode cM_note 74 = .ok (.imul, 1) := by decide +kernel
theorem ddM_note_75 : decode cM_note 75 = .ok (.iadd, 1) := by decide +kernel
theorem ddM_note_76 : decode cM_note 76 = .ok (.istore_n 3, 1) := by decide +kernel
theorem ddM_note_77 : decode cM_note 77 = .ok (.aload_n 0, 1) := by decide +kernel
theorem ddM_note_78 : decode cM_note 78 = .ok (.getfield 31, 3) := by decide +kernel
theorem ddM_note_81 : decode cM_note 81 = .ok (.iload_n 3, 1) := by decide +kernel
theorem ddM_note_82 : decode cM_note 82 = .ok (.iload_n 1, 1) := by decide +kernel
theorem ddM_note_83 : decode cM_note 83 = .ok (.iastore, 1) := by decide +kernel
theorem ddM_note_84 : decode cM_note 84 = .ok (.aload_n 0, 1) := by decide +kernel
theorem ddM_note_85 : decode cM_note 85 = .ok (.getfield 31, 3) := by decide +kernel
theorem ddM_note_88 : decode cM_note 88 = .ok (.iload_n 3, 1) := by decide +kernel
theorem ddM_note_89 : decode cM_note 89 = .ok (.iconst 1, 1) := by decide +kernel
theorem ddM_note_90 : decode cM_note 90 = .ok (.iadd, 1) := by decide +kernel
theorem ddM_note_91 : decode cM_note 91 = .ok (.iload_n 2, 1) := by decide +kernel
theorem ddM_note_92 : decode cM_note 92 = .ok (.iastore, 1) := by decide +kernel
theorem ddM_note_93 : decode cM_note 93 = .ok (.aload_n 0, 1) := by decide +kernel
theorem ddM_note_94 : decode cM_note 94 = .ok (.getfield 31, 3) := by decide +kernel
theorem ddM_note_97 : decode cM_note 97 = .ok (.iload_n 3, 1) := by decide +kernel
theorem ddM_note_98 : decode cM_note 98 = .ok (.iconst 2, 1) := by decide +kernel
theorem ddM_note_99 : decode cM_note 99 = .ok (.iadd, 1) := by decide +kernel
theorem ddM_note_100 : decode cM_note 100 = .ok (.aload_n 0, 1) := by decide +kernel
theorem ddM_note_101 : decode cM_note 101 = .ok (.getfield 217, 3) := by decide +kernel
theorem ddM_note_104 : decode cM_note 104 = .ok (.iastore, 1) := by decide +kernel
theorem ddM_note_105 : decode cM_note 105 = .ok (.aload_n 0, 1) := by decide +kernel
theorem ddM_note_106 : decode cM_note 106 = .ok (.getfield 31, 3) := by decide +kernel
theorem ddM_note_109 : decode cM_note 109 = .ok (.sipush 3712, 3) := by decide +kernel
theorem ddM_note_112 : decode cM_note 112 = .ok (.dup2, 1) := by decide +kernel
theorem ddM_note_113 : decode cM_note 113 = .ok (.iaload, 1) := by decide +kernel
theorem ddM_note_114 : decode cM_note 114 = .ok (.iconst 1, 1) := by decide +kernel
theorem ddM_note_115 : decode cM_note 115 = .ok (.iadd, 1) := by decide +kernel
theorem ddM_note_116 : decode cM_note 116 = .ok (.iastore, 1) := by decide +kernel
theorem ddM_note_117 : decode cM_note 117 = .ok (.return_, 1) := by decide +kernel
set_option maxHeartbeats 2000000 in
theorem zBM_note_62 {G : GXM} {X : CxM} (hG : GokM G) (C : CoM G X cM_note "HomeFreedModel") (N : mLM X = 4) {d : Nat} (hD : dpM X = d) (hd : 0 ≤ d)  {q : Mem} (E : EnM G X none none q 0 0) {v0 : Nat} {v1 : Int32} {v2 : Int32} {M : Mem} (h : BM_note_62 v0 v1 v2 M = some q) : ZM G X 62 [(0, .ref v0), (1, .int v1), (2, .int v2)] [] M 0 0 := by
  unfold BM_note_62 at h
  refine zz_sipush (v := 3713) C ddM_note_62 (by decide) ?_
  refine zz_iconst (v := 3) C ddM_note_65 (by decide) ?_
  refine zz_aload_n C 0 ddM_note_66 rfl rfl ?_
  obtain ⟨h1, h⟩ := gdN h
  obtain ⟨h2, h⟩ := gdN h
  refine zz_getr C ddM_note_67 fl_M_31 rfl h1 (of_decide_eq_true h2) ?_
  refine zz_sipush (v := 3712) C ddM_note_70 (by decide) ?_
  obtain ⟨h3, h⟩ := gdN h
  refine zz_iaload C ddM_note_73 h3 ?_
  refine zz_imul C ddM_note_74 ?_
  refine zz_iadd C ddM_note_75 ?_
  refine zz_istore_n (L1 := [(3, .int (3713 + (3 * (giM M (grM M v0 15) (Int32.toNatClampNeg 3712))))), (0, .ref v0), (1, .int v1), (2, .int v2)]) C ddM_note_76 rfl N (by decide) rfl ?_
  refine zz_aload_n C 1 ddM_note_77 rfl rfl ?_
  refine zz_getr C ddM_note_78 fl_M_31 rfl h1 (of_decide_eq_true h2) ?_
  refine zz_iload_n C 0 ddM_note_81 rfl rfl ?_
  refine zz_iload_n C 2 ddM_note_82 rfl rfl ?_
  obtain ⟨h4, h⟩ := gdN h
  refine zz_iastore C ddM_note_83 h4 ?_
  refine zz_aload_n C 1 ddM_note_84 rfl rfl ?_
  refine zz_getr C ddM_note_85 fl_M_31 rfl h1 (of_decide_eq_true h2) ?_
  refine zz_iload_n C 0 ddM_note_88 rfl rfl ?_
  refine zz_iconst (v := 1) C ddM_note_89 (by decide) ?_
  refine zz_iadd C ddM_note_90 ?_
  refine zz_iload_n C 3 ddM_note_91 rfl rfl ?_
  obtain ⟨h5, h⟩ := gdN h
  refine zz_iastore C ddM_note_92 h5 ?_
  refine zz_aload_n C 1 ddM_note_93 rfl rfl ?_
  refine zz_getr C ddM_note_94 fl_M_31 rfl h1 (of_decide_eq_true h2) ?_
  refine zz_iload_n C 0 ddM_note_97 rfl rfl ?_
  refine zz_iconst (v := 2) C ddM_note_98 (by decide) ?_
  refine zz_iadd C ddM_note_99 ?_
  refine zz_aload_n C 1 ddM_note_100 rfl rfl ?_
  refine zz_geti C ddM_note_101 fl_M_217 rfl h1 ?_
  obtain ⟨h6, h⟩ := gdN h
  refine zz_iastore C ddM_note_104 h6 ?_
  refine zz_aload_n C 1 ddM_note_105 rfl rfl ?_
  refine zz_getr C ddM_note_106 fl_M_31 rfl h1 (of_decide_eq_true h2) ?_
  refine zz_sipush (v := 3712) C ddM_note_109 (by decide) ?_
  refine zz_dup2 C ddM_note_112 rfl rfl ?_
  refine zz_iaload C ddM_note_113 h3 ?_
  refine zz_iconst (v := 1) C ddM_note_114 (by decide) ?_
  refine zz_iadd C ddM_note_115 ?_
  obtain ⟨h7, h⟩ := gdN h
  refine zz_iastore C ddM_note_116 h7 ?_
  obtain rfl := Option.some.inj h
  exact zz_vret C E ddM_note_117
set_option maxHeartbeats 2000000 in
theorem zBM_note_15 {G : GXM} {X : CxM} (hG : GokM G) (C : CoM G X cM_note "HomeFreedModel") (N : mLM X = 4) {d : Nat} (hD : dpM X = d) (hd : 0 ≤ d) {v0 : Nat} {v1 : Int32} {v2 : Int32} {K : Nat → Int32 → Int32 → Int32 → Mem → Option ((Mem))} {q : (Mem)} (hK : ∀ (v3 : Int32) (M : Mem), K v0 v1 v2 v3 M = some q → ZM G X 15 [(0, .ref v0), (1, .int v1), (2, .int v2), (3, .int v3)] [] M 0 0) (hx0 : ∀ y : Mem, q = y → ZM G X 50 [(0, .ref v0), (1, .int v1), (2, .int v2)] [] y 0 0) {v3 : Int32} {M : Mem} (h : BM_note_15 K v0 v1 v2 v3 M = some q) : ZM G X 15 [(0, .ref v0), (1, .int v1), (2, .int v2), (3, .int v3)] [] M 0 0 := by
  unfold BM_note_15 at h
  refine zz_iload_n C 3 ddM_note_15 rfl rfl ?_
  refine zz_sipush (v := 180) C ddM_note_16 (by decide) ?_
  refine zz_icmp_ge (tgt := 50) C ddM_note_19 rfl (fun hc => ?_) (fun hc => ?_)
  · replace h := iteT h hc
    refine zz_loc (L1 := [(0, .ref v0), (1, .int v1), (2, .int v2)]) [0, 1, 2] rfl ?_
    exact hx0 _ (Option.some.inj h).symm
  · replace h := iteF h hc
    refine zz_aload_n C 0 ddM_note_22 rfl rfl ?_
    obtain ⟨h1, h⟩ := gdN h
    obtain ⟨h2, h⟩ := gdN h
    refine zz_getr C ddM_note_23 fl_M_31 rfl h1 (of_decide_eq_true h2) ?_
    refine zz_sipush (v := 3713) C ddM_note_26 (by decide) ?_
    refine zz_iload_n C 3 ddM_note_29 rfl rfl ?_
    refine zz_iadd C ddM_note_30 ?_
    refine zz_iconst (v := 3) C ddM_note_31 (by decide) ?_
    refine zz_isub C ddM_note_32 ?_
    refine zz_aload_n C 0 ddM_note_33 rfl rfl ?_
    refine zz_getr C ddM_note_34 fl_M_31 rfl h1 (of_decide_eq_true h2) ?_
    refine zz_sipush (v := 3713) C ddM_note_37 (by decide) ?_
    refine zz_iload_n C 3 ddM_note_40 rfl rfl ?_
    refine zz_iadd C ddM_note_41 ?_
    obtain ⟨h3, h⟩ := gdN h
    refine zz_iaload C ddM_note_42 h3 ?_
    obtain ⟨h4, h⟩ := gdN h
    refine zz_iastore C ddM_note_43 h4 ?_
    refine zz_iinc (v := v3 + 1) (L1 := [(3, .int (v3 + 1)), (0, .ref v0), (1, .int v1), (2, .int v2)]) C 3 ddM_note_44 rfl rfl N (by decide) rfl ?_
    refine zz_goto (tgt := 15) C ddM_note_47 rfl ?_
    refine zz_loc (L1 := [(0, .ref v0), (1, .int v1), (2, .int v2), (3, .int (v3 + 1))]) [1, 2, 3, 0] rfl ?_
    exact hK _ _ h
set_option maxHeartbeats 2000000 in
theorem zLM_note_15 {G : GXM} {X : CxM} (hG : GokM G) (C : CoM G X cM_note "HomeFreedModel") (N : mLM X = 4) {d : Nat} (hD : dpM X = d) (hd : 0 ≤ d) {v0 : Nat} {v1 : Int32} {v2 : Int32} {q : (Mem)} : ∀ (f : Nat) (v3 : Int32) (M : Mem), LM_note_15 f v0 v1 v2 v3 M = some q → (hx0 : ∀ y : Mem, q = y → ZM G X 50 [(0, .ref v0), (1, .int v1), (2, .int v2)] [] y 0 0) → ZM G X 15 [(0, .ref v0), (1, .int v1), (2, .int v2), (3, .int v3)] [] M 0 0 := by
  intro f
  induction f with
  | zero => intro v3 M h; cases h
  | succ f ih =>
    intro v3 M h hx0
    exact zBM_note_15 hG C N hD hd (K := LM_note_15 f) (q := q) (fun v3 M h => ih v3 M h hx0) hx0 h
set_option maxHeartbeats 2000000 in
theorem xM_note {G : GXM} {l : Launch} (hG : GokM G) (d : Nat) (hd : 0 ≤ d) {v0 : Nat} {v1 : Int32} {v2 : Int32} {M : Mem} {q : Mem} (h : fM_note v0 v1 v2 M = some q) : ExM G l d 0 0 yM_note cM_note 4 none [.ref v0, .int v1, .int v2] M none q := by
  refine ex_of hG (by decide) (Nat.le_of_ble_eq_true rfl) ?_
  intro X hl C E N hD hn
  show ZM G X 0 [(0, .ref v0), (1, .int v1), (2, .int v2)] [] M 0 0
  unfold fM_note at h
  refine zz_aload_n C 0 ddM_note_0 rfl rfl ?_
  obtain ⟨h1, h⟩ := gdN h
  obtain ⟨h2, h⟩ := gdN h
  refine zz_getr C ddM_note_1 fl_M_31 rfl h1 (of_decide_eq_true h2) ?_
  refine zz_sipush (v := 3712) C ddM_note_4 (by decide) ?_
  obtain ⟨h3, h⟩ := gdN h
  refine zz_iaload C ddM_note_7 h3 ?_
  refine zz_bipush (v := 60) C ddM_note_8 (by decide) ?_
  refine zz_icmp_ne (tgt := 62) C ddM_note_10 rfl (fun hc => ?_) (fun hc => ?_)
  · replace h := iteF h hc
    exact zBM_note_62 hG C N hD hd E h
  · replace h := iteT h hc
    refine zz_iconst (v := 3) C ddM_note_13 (by decide) ?_
    refine zz_istore_n (L1 := [(3, .int 3), (0, .ref v0), (1, .int v1), (2, .int v2)]) C ddM_note_14 rfl N (by decide) rfl ?_
    refine zz_loc (L1 := [(0, .ref v0), (1, .int v1), (2, .int v2), (3, .int 3)]) [1, 2, 3, 0] rfl ?_
    obtain ⟨q4, hq4, h⟩ := bindN h
    refine zLM_note_15 hG C N hD hd 1000000 _ _ hq4 ?_
    · intro y5 eq4; subst eq4
      refine zz_aload_n C 0 ddM_note_50 rfl rfl ?_
      obtain ⟨h6, h⟩ := gdN h
      obtain ⟨h7, h⟩ := gdN h
      refine zz_getr C ddM_note_51 fl_M_31 rfl h6 (of_decide_eq_true h7) ?_
      refine zz_sipush (v := 3712) C ddM_note_54 (by decide) ?_
      refine zz_dup2 C ddM_note_57 rfl rfl ?_
      obtain ⟨h8, h⟩ := gdN h
      refine zz_iaload C ddM_note_58 h8 ?_
      refine zz_iconst (v := 1) C ddM_note_59 (by decide) ?_
      refine zz_isub C ddM_note_60 ?_
      obtain ⟨h9, h⟩ := gdN h
      refine zz_iastore C ddM_note_61 h9 ?_
      exact zBM_note_62 hG C N hD hd E h
theorem ddM_get_0 : decode cM_get 0 = .ok (.aload_n 0, 1) := by decide +kernel
theorem ddM_get_1 : decode cM_get 1 = .ok (.aload_n 0, 1) := by decide +kernel
theorem ddM_get_2 : decode cM_get 2 = .ok (.iload_n 1, 1) := by decide +kernel
theorem ddM_get_3 : decode cM_get 3 = .ok (.invokevirtual 163, 3) := by decide +kernel
theorem ddM_get_6 : decode cM_get 6 = .ok (.ifCond .ne 7, 3) := by decide +kernel
theorem ddM_get_9 : decode cM_get 9 = .ok (.iconst 0, 1) := by decide +kernel
theorem ddM_get_10 : decode cM_get 10 = .ok (.goto 45, 3) := by decide +kernel
theorem ddM_get_13 : decode cM_get 13 = .ok (.aload_n 0, 1) := by decide +kernel
theorem ddM_get_14 : decode cM_get 14 = .ok (.iload_n 2, 1) := by decide +kernel
theorem ddM_get_15 : decode cM_get 15 = .ok (.invokevirtual 312, 3) := by decide +kernel
theorem ddM_get_18 : decode cM_get 18 = .ok (.ifCond .ne 7, 3) := by decide +kernel
theorem ddM_get_21 : decode cM_get 21 = .ok (.iconst 1, 1) := by decide +kernel
theorem ddM_get_22 : decode cM_get 22 = .ok (.goto 33, 3) := by decide +kernel
theorem ddM_get_25 : decode cM_get 25 = .ok (.aload_n 0, 1) := by decide +kernel
theorem ddM_get_26 : decode cM_get 26 = .ok (.iload_n 1, 1) := by decide +kernel
theorem ddM_get_27 : decode cM_get 27 = .ok (.invokevirtual 260, 3) := by decide +kernel
theorem ddM_get_30 : decode cM_get 30 = .ok (.ifCond .ne 7, 3) := by decide +kernel
theorem ddM_get_33 : decode cM_get 33 = .ok (.iconst 2, 1) := by decide +kernel
theorem ddM_get_34 : decode cM_get 34 = .ok (.goto 21, 3) := by decide +kernel
theorem ddM_get_37 : decode cM_get 37 = .ok (.aload_n 0, 1) := by decide +kernel
theorem ddM_get_38 : decode cM_get 38 = .ok (.iload_n 1, 1) := by decide +kernel
theorem ddM_get_39 : decode cM_get 39 = .ok (.aload_n 0, 1) := by decide +kernel
theorem ddM_get_40 : decode cM_get 40 = .ok (.iload_n 2, 1) := by decide +kernel
theorem ddM_get_41 : decode cM_get 41 = .ok (.invokevirtual 263, 3) := by decide +kernel
theorem ddM_get_44 : decode cM_get 44 = .ok (.invokevirtual 229, 3) := by decide +kernel
theorem ddM_get_47 : decode cM_get 47 = .ok (.ifCond .ne 7, 3) := by decide +kernel
theorem ddM_get_50 : decode cM_get 50 = .ok (.iconst 3, 1) := by decide +kernel
theorem ddM_get_51 : decode cM_get 51 = .ok (.goto 4, 3) := by decide +kernel
theorem ddM_get_54 : decode cM_get 54 = .ok (.iconst (-1), 1) := by decide +kernel
theorem ddM_get_55 : decode cM_get 55 = .ok (.invokevirtual 315, 3) := by decide +kernel
theorem ddM_get_58 : decode cM_get 58 = .ok (.ifCond .eq 5, 3) := by decide +kernel
theorem ddM_get_61 : decode cM_get 61 = .ok (.iconst (-1), 1) := by decide +kernel
theorem ddM_get_62 : decode cM_get 62 = .ok (.ireturn, 1) := by decide +kernel
theorem ddM_get_63 : decode cM_get 63 = .ok (.aload_n 0, 1) := by decide +kernel
theorem ddM_get_64 : decode cM_get 64 = .ok (.invokevirtual 318, 3) := by decide +kernel
theorem ddM_get_67 : decode cM_get 67 = .ok (.aload_n 0, 1) := by decide +kernel
theorem ddM_get_68 : decode cM_get 68 = .ok (.iload_n 1, 1) := by decide +kernel
theorem ddM_get_69 : decode cM_get 69 = .ok (.aload_n 0, 1) := by decide +kernel
theorem ddM_get_70 : decode cM_get 70 = .ok (.iload_n 2, 1) := by decide +kernel
theorem ddM_get_71 : decode cM_get 71 = .ok (.invokevirtual 263, 3) := by decide +kernel
theorem ddM_get_74 : decode cM_get 74 = .ok (.invokevirtual 275, 3) := by decide +kernel
theorem ddM_get_77 : decode cM_get 77 = .ok (.istore_n 3, 1) := by decide +kernel
theorem ddM_get_78 : decode cM_get 78 = .ok (.aload_n 0, 1) := by decide +kernel
theorem ddM_get_79 : decode cM_get 79 = .ok (.iload_n 3, 1) := by decide +kernel
theorem ddM_get_80 : decode cM_get 80 = .ok (.iload_n 1, 1) := by decide +kernel
theorem ddM_get_81 : decode cM_get 81 = .ok (.invokevirtual 278, 3) := by decide +kernel
theorem ddM_get_84 : decode cM_get 84 = .ok (.iload_n 3, 1) := by decide +kernel
theorem ddM_get_85 : decode cM_get 85 = .ok (.ireturn, 1) := by decide +kernel
set_option maxHeartbeats 2000000 in
theorem zBM_get_55 {G : GXM} {X : CxM} (hG : GokM G) (C : CoM G X cM_get "HomeFreedModel") (N : mLM X = 4) {d : Nat} (hD : dpM X = d) (hd : 8 ≤ d)  {q : Int32 × Mem} (E : EnM G X (some .int) (some (.int q.1)) q.2 0 0) {v0 : Nat} {v1 : Int32} {v2 : Int32} {w0 : Nat} {w1 : Int32} {M : Mem} (h : BM_get_55 v0 v1 v2 w0 w1 M = some q) : ZM G X 55 [(0, .ref v0), (1, .int v1), (2, .int v2)] [.int w1, .ref w0] M 0 0 := by
  unfold BM_get_55 at h
  obtain ⟨h2, h⟩ := gdN h
  obtain ⟨q1, hq1, h⟩ := bindN h
  refine zz_callV0 (As := [.int w1]) C ddM_get_55 wd_1475 my_M_isRefused mv_M_isRefused ⟨_, rfl, rfl⟩ (xM_isRefused hG (d - 1) (by omega) hq1) (by omega) h2 rfl rfl (Nat.le_of_ble_eq_true rfl) ?_
  refine zz_if_eq (tgt := 63) C ddM_get_58 rfl (fun hc => ?_) (fun hc => ?_)
  · replace h := iteT h hc
    refine zz_aload_n C 0 ddM_get_63 rfl rfl ?_
    obtain ⟨h4, h⟩ := gdN h
    obtain ⟨q3, hq3, h⟩ := bindN h
    refine zz_callV0 (As := []) C ddM_get_64 wd_1479 my_M_keep mv_M_keep ⟨_, rfl, rfl⟩ (xM_keep hG (d - 1) (by omega) hq3) (by omega) h4 rfl rfl (Nat.le_of_ble_eq_true rfl) ?_
    refine zz_aload_n C 0 ddM_get_67 rfl rfl ?_
    refine zz_iload_n C 1 ddM_get_68 rfl rfl ?_
    refine zz_aload_n C 0 ddM_get_69 rfl rfl ?_
    refine zz_iload_n C 2 ddM_get_70 rfl rfl ?_
    obtain ⟨h6, h⟩ := gdN h
    obtain ⟨q5, hq5, h⟩ := bindN h
    refine zz_callV0 (As := [.int v2]) C ddM_get_71 wd_1459 my_M_classFor mv_M_classFor ⟨_, rfl, rfl⟩ (xM_classFor hG (d - 1) (by omega) hq5) (by omega) h6 rfl rfl (Nat.le_of_ble_eq_true rfl) ?_
    obtain ⟨h8, h⟩ := gdN h
    obtain ⟨q7, hq7, h⟩ := bindN h
    refine zz_callV0 (As := [.int v1, .int q5.1]) C ddM_get_74 wd_1483 my_M_getNow mv_M_getNow ⟨_, rfl, rfl⟩ (xM_getNow hG (d - 1) (by omega) hq7) (by omega) h8 rfl rfl (Nat.le_of_ble_eq_true rfl) ?_
    refine zz_istore_n (L1 := [(3, .int q7.1), (0, .ref v0), (1, .int v1), (2, .int v2)]) C ddM_get_77 rfl N (by decide) rfl ?_
    refine zz_aload_n C 1 ddM_get_78 rfl rfl ?_
    refine zz_iload_n C 0 ddM_get_79 rfl rfl ?_
    refine zz_iload_n C 2 ddM_get_80 rfl rfl ?_
    obtain ⟨h10, h⟩ := gdN h
    obtain ⟨q9, hq9, h⟩ := bindN h
    refine zz_callV0 (As := [.int q7.1, .int v1]) C ddM_get_81 wd_1555 my_M_note mv_M_note ⟨_, rfl, rfl⟩ (xM_note hG (d - 1) (by omega) hq9) (by omega) h10 rfl rfl (Nat.le_of_ble_eq_true rfl) ?_
    refine zz_iload_n C 0 ddM_get_84 rfl rfl ?_
    obtain rfl := Option.some.inj h
    exact zz_iret C E ddM_get_85
  · replace h := iteF h hc
    refine zz_iconst (v := (-1)) C ddM_get_61 (by decide) ?_
    obtain rfl := Option.some.inj h
    exact zz_iret C E ddM_get_62
set_option maxHeartbeats 2000000 in
theorem xM_get {G : GXM} {l : Launch} (hG : GokM G) (d : Nat) (hd : 8 ≤ d) {v0 : Nat} {v1 : Int32} {v2 : Int32} {M : Mem} {q : Int32 × Mem} (h : fM_get v0 v1 v2 M = some q) : ExM G l d 0 0 yM_get cM_get 4 (some .int) [.ref v0, .int v1, .int v2] M (some (.int q.1)) q.2 := by
  refine ex_of hG (by decide) (Nat.le_of_ble_eq_true rfl) ?_
  intro X hl C E N hD hn
  show ZM G X 0 [(0, .ref v0), (1, .int v1), (2, .int v2)] [] M 0 0
  unfold fM_get at h
  refine zz_aload_n C 0 ddM_get_0 rfl rfl ?_
  refine zz_aload_n C 0 ddM_get_1 rfl rfl ?_
  refine zz_iload_n C 1 ddM_get_2 rfl rfl ?_
  obtain ⟨h2, h⟩ := gdN h
  obtain ⟨q1, hq1, h⟩ := bindN h
  refine zz_callV0 (As := [.int v1]) C ddM_get_3 wd_1409 my_M_isThread mv_M_isThread ⟨_, rfl, rfl⟩ (xM_isThread hG (d - 1) (by omega) hq1) (by omega) h2 rfl rfl (Nat.le_of_ble_eq_true rfl) ?_
  refine zz_if_ne (tgt := 13) C ddM_get_6 rfl (fun hc => ?_) (fun hc => ?_)
  · replace h := iteF h hc
    refine zz_aload_n C 0 ddM_get_13 rfl rfl ?_
    refine zz_iload_n C 2 ddM_get_14 rfl rfl ?_
    obtain ⟨h4, h⟩ := gdN h
    obtain ⟨q3, hq3, h⟩ := bindN h
    refine zz_callV0 (As := [.int v2]) C ddM_get_15 wd_1455 my_M_isAsked mv_M_isAsked ⟨_, rfl, rfl⟩ (xM_isAsked hG (d - 1) (by omega) hq3) (by omega) h4 rfl rfl (Nat.le_of_ble_eq_true rfl) ?_
    refine zz_if_ne (tgt := 25) C ddM_get_18 rfl (fun hc => ?_) (fun hc => ?_)
    · replace h := iteF h hc
      refine zz_aload_n C 0 ddM_get_25 rfl rfl ?_
      refine zz_iload_n C 1 ddM_get_26 rfl rfl ?_
      obtain ⟨h6, h⟩ := gdN h
      obtain ⟨q5, hq5, h⟩ := bindN h
      refine zz_callV0 (As := [.int v1]) C ddM_get_27 wd_1463 my_M_doesLive mv_M_doesLive ⟨_, rfl, rfl⟩ (xM_doesLive hG (d - 1) (by omega) hq5) (by omega) h6 rfl rfl (Nat.le_of_ble_eq_true rfl) ?_
      refine zz_if_ne (tgt := 37) C ddM_get_30 rfl (fun hc => ?_) (fun hc => ?_)
      · replace h := iteF h hc
        refine zz_aload_n C 0 ddM_get_37 rfl rfl ?_
        refine zz_iload_n C 1 ddM_get_38 rfl rfl ?_
        refine zz_aload_n C 0 ddM_get_39 rfl rfl ?_
        refine zz_iload_n C 2 ddM_get_40 rfl rfl ?_
        obtain ⟨h8, h⟩ := gdN h
        obtain ⟨q7, hq7, h⟩ := bindN h
        refine zz_callV0 (As := [.int v2]) C ddM_get_41 wd_1459 my_M_classFor mv_M_classFor ⟨_, rfl, rfl⟩ (xM_classFor hG (d - 1) (by omega) hq7) (by omega) h8 rfl rfl (Nat.le_of_ble_eq_true rfl) ?_
        obtain ⟨h10, h⟩ := gdN h
        obtain ⟨q9, hq9, h⟩ := bindN h
        refine zz_callV0 (As := [.int v1, .int q7.1]) C ddM_get_44 wd_1467 my_M_canGet mv_M_canGet ⟨_, rfl, rfl⟩ (xM_canGet hG (d - 1) (by omega) hq9) (by omega) h10 rfl rfl (Nat.le_of_ble_eq_true rfl) ?_
        refine zz_if_ne (tgt := 54) C ddM_get_47 rfl (fun hc => ?_) (fun hc => ?_)
        · replace h := iteF h hc
          refine zz_iconst (v := (-1)) C ddM_get_54 (by decide) ?_
          exact zBM_get_55 hG C N hD hd E h
        · replace h := iteT h hc
          refine zz_iconst (v := 3) C ddM_get_50 (by decide) ?_
          refine zz_goto (tgt := 55) C ddM_get_51 rfl ?_
          exact zBM_get_55 hG C N hD hd E h
      · replace h := iteT h hc
        refine zz_iconst (v := 2) C ddM_get_33 (by decide) ?_
        refine zz_goto (tgt := 55) C ddM_get_34 rfl ?_
        exact zBM_get_55 hG C N hD hd E h
    · replace h := iteT h hc
      refine zz_iconst (v := 1) C ddM_get_21 (by decide) ?_
      refine zz_goto (tgt := 55) C ddM_get_22 rfl ?_
      exact zBM_get_55 hG C N hD hd E h
  · replace h := iteT h hc
    refine zz_iconst (v := 0) C ddM_get_9 (by decide) ?_
    refine zz_goto (tgt := 55) C ddM_get_10 rfl ?_
    exact zBM_get_55 hG C N hD hd E h
theorem ddM_freeNow_0 : decode cM_freeNow 0 = .ok (.iload_n 2, 1) := by decide +kernel
theorem ddM_freeNow_1 : decode cM_freeNow 1 = .ok (.bipush 100, 2) := by decide +kernel
theorem ddM_freeNow_3 : decode cM_freeNow 3 = .ok (.idiv, 1) := by decide +kernel
theorem ddM_freeNow_4 : decode cM_freeNow 4 = .ok (.istore_n 3, 1) := by decide +kernel
theorem ddM_freeNow_5 : decode cM_freeNow 5 = .ok (.iload_n 2, 1) := by decide +kernel
theorem ddM_freeNow_6 : decode cM_freeNow 6 = .ok (.bipush 100, 2) := by decide +kernel
theorem ddM_freeNow_8 : decode cM_freeNow 8 = .ok (.irem, 1) := by decide +kernel
theorem ddM_freeNow_9 : decode cM_freeNow 9 = .ok (.istore 4, 2) := by decide +kernel
theorem ddM_freeNow_11 : decode cM_freeNow 11 = .ok (.aload_n 0, 1) := by decide +kernel
theorem ddM_freeNow_12 : decode cM_freeNow 12 = .ok (.iload_n 3, 1) := by decide +kernel
theorem ddM_freeNow_13 : decode cM_freeNow 13 = .ok (.bipush 126, 2) := by decide +kernel
theorem ddM_freeNow_15 : decode cM_freeNow 15 = .ok (.iload 4, 2) := by decide +kernel
theorem ddM_freeNow_17 : decode cM_freeNow 17 = .ok (.iadd, 1) := by decide +kernel
theorem ddM_freeNow_18 : decode cM_freeNow 18 = .ok (.iconst 0, 1) := by decide +kernel
theorem ddM_freeNow_19 : decode cM_freeNow 19 = .ok (.invokevirtual 185, 3) := by decide +kernel
theorem ddM_freeNow_22 : decode cM_freeNow 22 = .ok (.aload_n 0, 1) := by decide +kernel
theorem ddM_freeNow_23 : decode cM_freeNow 23 = .ok (.iload_n 3, 1) := by decide +kernel
theorem ddM_freeNow_24 : decode cM_freeNow 24 = .ok (.invokevirtual 241, 3) := by decide +kernel
theorem ddM_freeNow_27 : decode cM_freeNow 27 = .ok (.ifCond .eq 46, 3) := by decide +kernel
theorem ddM_freeNow_30 : decode cM_freeNow 30 = .ok (.aload_n 0, 1) := by decide +kernel
theorem ddM_freeNow_31 : decode cM_freeNow 31 = .ok (.iload_n 3, 1) := by decide +kernel
theorem ddM_freeNow_32 : decode cM_freeNow 32 = .ok (.iconst 1, 1) := by decide +kernel
theorem ddM_freeNow_33 : decode cM_freeNow 33 = .ok (.invokevirtual 170, 3) := by decide +kernel
theorem ddM_freeNow_36 : decode cM_freeNow 36 = .ok (.iload_n 1, 1) := by decide +kernel
theorem ddM_freeNow_37 : decode cM_freeNow 37 = .ok (.if_icmp .ne 36, 3) := by decide +kernel
theorem ddM_freeNow_40 : decode cM_freeNow 40 = .ok (.aload_n 0, 1) := by decide +kernel
theorem ddM_freeNow_41 : decode cM_freeNow 41 = .ok (.iload_n 3, 1) := by decide +kernel
theorem ddM_freeNow_42 : decode cM_freeNow 42 = .ok (.iconst 1, 1) := by decide +kernel
theorem ddM_freeNow_43 : decode cM_freeNow 43 = .ok (.invokestatic 173, 3) := by decide +kernel
theorem ddM_freeNow_46 : decode cM_freeNow 46 = .ok (.iload 4, 2) := by decide +kernel
theorem ddM_freeNow_48 : decode cM_freeNow 48 = .ok (.invokevirtual 166, 3) := by decide +kernel
theorem ddM_freeNow_51 : decode cM_freeNow 51 = .ok (.aload_n 0, 1) := by decide +kernel
theorem ddM_freeNow_52 : decode cM_freeNow 52 = .ok (.iload_n 3, 1) := by decide +kernel
theorem ddM_freeNow_53 : decode cM_freeNow 53 = .ok (.iconst 0, 1) := by decide +kernel
theorem ddM_freeNow_54 : decode cM_freeNow 54 = .ok (.invokevirtual 170, 3) := by decide +kernel
theorem ddM_freeNow_57 : decode cM_freeNow 57 = .ok (.iconst 2, 1) := by decide +kernel
theorem ddM_freeNow_58 : decode cM_freeNow 58 = .ok (.if_icmp .ne 8, 3) := by decide +kernel
theorem ddM_freeNow_61 : decode cM_freeNow 61 = .ok (.aload_n 0, 1) := by decide +kernel
theorem ddM_freeNow_62 : decode cM_freeNow 62 = .ok (.iload_n 3, 1) := by decide +kernel
theorem ddM_freeNow_63 : decode cM_freeNow 63 = .ok (.invokevirtual 226, 3) := by decide +kernel
theorem ddM_freeNow_66 : decode cM_freeNow 66 = .ok (.aload_n 0, 1) := by decide +kernel
theorem ddM_freeNow_67 : decode cM_freeNow 67 = .ok (.iload_n 3, 1) := by decide +kernel
theorem ddM_freeNow_68 : decode cM_freeNow 68 = .ok (.invokevirtual 244, 3) := by decide +kernel
theorem ddM_freeNow_71 : decode cM_freeNow 71 = .ok (.iconst 0, 1) := by decide +kernel
theorem ddM_freeNow_72 : decode cM_freeNow 72 = .ok (.ireturn, 1) := by decide +kernel
theorem ddM_freeNow_73 : decode cM_freeNow 73 = .ok (.aload_n 0, 1) := by decide +kernel
theorem ddM_freeNow_74 : decode cM_freeNow 74 = .ok (.iload_n 1, 1) := by decide +kernel
theorem ddM_freeNow_75 : decode cM_freeNow 75 = .ok (.iload_n 3, 1) := by decide +kernel
theorem ddM_freeNow_76 : decode cM_freeNow 76 = .ok (.invokestatic 238, 3) := by decide +kernel
theorem ddM_freeNow_79 : decode cM_freeNow 79 = .ok (.iload 4, 2) := by decide +kernel
theorem ddM_freeNow_81 : decode cM_freeNow 81 = .ok (.invokevirtual 166, 3) := by decide +kernel
theorem ddM_freeNow_84 : decode cM_freeNow 84 = .ok (.aload_n 0, 1) := by decide +kernel
theorem ddM_freeNow_85 : decode cM_freeNow 85 = .ok (.getfield 31, 3) := by decide +kernel
theorem ddM_freeNow_88 : decode cM_freeNow 88 = .ok (.iload_n 1, 1) := by decide +kernel
theorem ddM_freeNow_89 : decode cM_freeNow 89 = .ok (.iload_n 3, 1) := by decide +kernel
theorem ddM_freeNow_90 : decode cM_freeNow 90 = .ok (.invokestatic 238, 3) := by decide +kernel
theorem ddM_freeNow_93 : decode cM_freeNow 93 = .ok (.iaload, 1) := by decide +kernel
theorem ddM_freeNow_94 : decode cM_freeNow 94 = .ok (.aload_n 0, 1) := by decide +kernel
theorem ddM_freeNow_95 : decode cM_freeNow 95 = .ok (.getfield 19, 3) := by decide +kernel
theorem ddM_freeNow_98 : decode cM_freeNow 98 = .ok (.iconst 3, 1) := by decide +kernel
theorem ddM_freeNow_99 : decode cM_freeNow 99 = .ok (.iaload, 1) := by decide +kernel
theorem ddM_freeNow_100 : decode cM_freeNow 100 = .ok (.if_icmp .ge 5, 3) := by decide +kernel
theorem ddM_freeNow_103 : decode cM_freeNow 103 = .ok (.iconst 1, 1) := by decide +kernel
theorem ddM_freeNow_104 : decode cM_freeNow 104 = .ok (.ireturn, 1) := by decide +kernel
theorem ddM_freeNow_105 : decode cM_freeNow 105 = .ok (.aload_n 0, 1) := by decide +kernel
theorem ddM_freeNow_106 : decode cM_freeNow 106 = .ok (.iload_n 1, 1) := by decide +kernel
theorem ddM_freeNow_107 : decode cM_freeNow 107 = .ok (.iload_n 3, 1) := by decide +kernel
theorem ddM_freeNow_108 : decode cM_freeNow 108 = .ok (.invokevirtual 247, 3) := by decide +kernel
theorem ddM_freeNow_111 : decode cM_freeNow 111 = .ok (.pop, 1) := by decide +kernel
theorem ddM_freeNow_112 : decode cM_freeNow 112 = .ok (.iconst 2, 1) := by decide +kernel
theorem ddM_freeNow_113 : decode cM_freeNow 113 = .ok (.ireturn, 1) := by decide +kernel
set_option maxHeartbeats 2000000 in
theorem zBM_freeNow_73 {G : GXM} {X : CxM} (hG : GokM G) (C : CoM G X cM_freeNow "HomeFreedModel") (N : mLM X = 5) {d : Nat} (hD : dpM X = d) (hd : 5 ≤ d)  {q : Int32 × Mem} (E : EnM G X (some .int) (some (.int q.1)) q.2 0 0) {v0 : Nat} {v1 : Int32} {v3 : Int32} {v4 : Int32} {M : Mem} (h : BM_freeNow_73 v0 v1 v3 v4 M = some q) : ZM G X 73 [(0, .ref v0), (1, .int v1), (3, .int v3), (4, .int v4)] [] M 0 0 := by
  unfold BM_freeNow_73 at h
  refine zz_aload_n C 0 ddM_freeNow_73 rfl rfl ?_
  refine zz_iload_n C 1 ddM_freeNow_74 rfl rfl ?_
  refine zz_iload_n C 2 ddM_freeNow_75 rfl rfl ?_
  obtain ⟨q1, hq1, h⟩ := bindN h
  refine zz_callS0 (As := [.int v1, .int v3]) C ddM_freeNow_76 wd_1425 my_M_boxAt mv_M_boxAt (xM_boxAt hG (d - 1) (by omega) hq1) (by omega) rfl rfl (Nat.le_of_ble_eq_true rfl) ?_
  refine zz_iload C 3 ddM_freeNow_79 rfl ?_
  obtain ⟨h3, h⟩ := gdN h
  obtain ⟨q2, hq2, h⟩ := bindN h
  refine zz_callV0 (As := [.int q1.1, .int v4]) C ddM_freeNow_81 wd_1499 my_M_addFirst mv_M_addFirst ⟨_, rfl, rfl⟩ (xM_addFirst hG (d - 1) (by omega) hq2) (by omega) h3 rfl rfl (Nat.le_of_ble_eq_true rfl) ?_
  refine zz_aload_n C 0 ddM_freeNow_84 rfl rfl ?_
  obtain ⟨h4, h⟩ := gdN h
  obtain ⟨h5, h⟩ := gdN h
  refine zz_getr C ddM_freeNow_85 fl_M_31 rfl h4 (of_decide_eq_true h5) ?_
  refine zz_iload_n C 1 ddM_freeNow_88 rfl rfl ?_
  refine zz_iload_n C 2 ddM_freeNow_89 rfl rfl ?_
  obtain ⟨q6, hq6, h⟩ := bindN h
  refine zz_callS0 (As := [.int v1, .int v3]) C ddM_freeNow_90 wd_1425 my_M_boxAt mv_M_boxAt (xM_boxAt hG (d - 1) (by omega) hq6) (by omega) rfl rfl (Nat.le_of_ble_eq_true rfl) ?_
  obtain ⟨h7, h⟩ := gdN h
  refine zz_iaload C ddM_freeNow_93 h7 ?_
  refine zz_aload_n C 0 ddM_freeNow_94 rfl rfl ?_
  obtain ⟨h8, h⟩ := gdN h
  obtain ⟨h9, h⟩ := gdN h
  refine zz_getr C ddM_freeNow_95 fl_M_19 rfl h8 (of_decide_eq_true h9) ?_
  refine zz_iconst (v := 3) C ddM_freeNow_98 (by decide) ?_
  obtain ⟨h10, h⟩ := gdN h
  refine zz_iaload C ddM_freeNow_99 h10 ?_
  refine zz_icmp_ge (tgt := 105) C ddM_freeNow_100 rfl (fun hc => ?_) (fun hc => ?_)
  · replace h := iteT h hc
    refine zz_aload_n C 0 ddM_freeNow_105 rfl rfl ?_
    refine zz_iload_n C 1 ddM_freeNow_106 rfl rfl ?_
    refine zz_iload_n C 2 ddM_freeNow_107 rfl rfl ?_
    obtain ⟨q11, hq11, h⟩ := bindN h
    refine zz_callV0 (As := [.int v1, .int v3]) C ddM_freeNow_108 wd_1535 my_M_goHome mv_M_goHome ⟨_, rfl, rfl⟩ (xM_goHome hG (d - 1) (by omega) hq11) (by omega) h8 rfl rfl (Nat.le_of_ble_eq_true rfl) ?_
    refine zz_pop C ddM_freeNow_111 rfl ?_
    refine zz_iconst (v := 2) C ddM_freeNow_112 (by decide) ?_
    obtain rfl := Option.some.inj h
    exact zz_iret C E ddM_freeNow_113
  · replace h := iteF h hc
    refine zz_iconst (v := 1) C ddM_freeNow_103 (by decide) ?_
    obtain rfl := Option.some.inj h
    exact zz_iret C E ddM_freeNow_104
set_option maxHeartbeats 2000000 in
theorem zBM_freeNow_66 {G : GXM} {X : CxM} (hG : GokM G) (C : CoM G X cM_freeNow "HomeFreedModel") (N : mLM X = 5) {d : Nat} (hD : dpM X = d) (hd : 5 ≤ d)  {q : Int32 × Mem} (E : EnM G X (some .int) (some (.int q.1)) q.2 0 0) {v0 : Nat} {v3 : Int32} {M : Mem} (h : BM_freeNow_66 v0 v3 M = some q) : ZM G X 66 [(0, .ref v0), (3, .int v3)] [] M 0 0 := by
  unfold BM_freeNow_66 at h
  refine zz_aload_n C 0 ddM_freeNow_66 rfl rfl ?_
  refine zz_iload_n C 1 ddM_freeNow_67 rfl rfl ?_
  obtain ⟨h2, h⟩ := gdN h
  obtain ⟨q1, hq1, h⟩ := bindN h
  refine zz_callV0 (As := [.int v3]) C ddM_freeNow_68 wd_1551 my_M_giveBack mv_M_giveBack ⟨_, rfl, rfl⟩ (xM_giveBack hG (d - 1) (by omega) hq1) (by omega) h2 rfl rfl (Nat.le_of_ble_eq_true rfl) ?_
  refine zz_iconst (v := 0) C ddM_freeNow_71 (by decide) ?_
  obtain rfl := Option.some.inj h
  exact zz_iret C E ddM_freeNow_72
set_option maxHeartbeats 2000000 in
theorem xM_freeNow {G : GXM} {l : Launch} (hG : GokM G) (d : Nat) (hd : 5 ≤ d) {v0 : Nat} {v1 : Int32} {v2 : Int32} {M : Mem} {q : Int32 × Mem} (h : fM_freeNow v0 v1 v2 M = some q) : ExM G l d 0 0 yM_freeNow cM_freeNow 5 (some .int) [.ref v0, .int v1, .int v2] M (some (.int q.1)) q.2 := by
  refine ex_of hG (by decide) (Nat.le_of_ble_eq_true rfl) ?_
  intro X hl C E N hD hn
  show ZM G X 0 [(4, .int v4), (3, .int v3), (0, .ref v0), (1, .int v1), (2, .int v2)] [] M 0 0
  unfold fM_freeNow at h
  refine zz_iload_n C 2 ddM_freeNow_0 rfl rfl ?_
  refine zz_bipush (v := 100) C ddM_freeNow_1 (by decide) ?_
  refine zz_idiv C ddM_freeNow_3 (by decide) ?_
  refine zz_istore_n (L1 := [(3, .int (v2 / 100)), (0, .ref v0), (1, .int v1), (2, .int v2)]) C ddM_freeNow_4 rfl N (by decide) rfl ?_
  refine zz_iload_n C 3 ddM_freeNow_5 rfl rfl ?_
  refine zz_bipush (v := 100) C ddM_freeNow_6 (by decide) ?_
  refine zz_irem C ddM_freeNow_8 (by decide) ?_
  refine zz_istore (L1 := [(4, .int (v2 - v2 / 100 * 100)), (3, .int (v2 / 100)), (0, .ref v0), (1, .int v1), (2, .int v2)]) C ddM_freeNow_9 N (by decide) rfl ?_
  refine zz_aload_n C 2 ddM_freeNow_11 rfl rfl ?_
  refine zz_iload_n C 1 ddM_freeNow_12 rfl rfl ?_
  refine zz_bipush (v := 126) C ddM_freeNow_13 (by decide) ?_
  refine zz_iload C 0 ddM_freeNow_15 rfl ?_
  refine zz_iadd C ddM_freeNow_17 ?_
  refine zz_iconst (v := 0) C ddM_freeNow_18 (by decide) ?_
  obtain ⟨h2, h⟩ := gdN h
  obtain ⟨q1, hq1, h⟩ := bindN h
  refine zz_callV0 (As := [.int (v2 / 100), .int (126 + (v2 - v2 / 100 * 100)), .int 0]) C ddM_freeNow_19 wd_1511 my_M_set mv_M_set ⟨_, rfl, rfl⟩ (xM_set hG (d - 1) (by omega) hq1) (by omega) h2 rfl rfl (Nat.le_of_ble_eq_true rfl) ?_
  refine zz_aload_n C 2 ddM_freeNow_22 rfl rfl ?_
  refine zz_iload_n C 1 ddM_freeNow_23 rfl rfl ?_
  obtain ⟨h4, h⟩ := gdN h
  obtain ⟨q3, hq3, h⟩ := bindN h
  refine zz_callV0 (As := [.int (v2 / 100)]) C ddM_freeNow_24 wd_1382 my_M_isOwned mv_M_isOwned ⟨_, rfl, rfl⟩ (xM_isOwned hG (d - 1) (by omega) hq3) (by omega) h4 rfl rfl (Nat.le_of_ble_eq_true rfl) ?_
  refine zz_if_eq (tgt := 73) C ddM_freeNow_27 rfl (fun hc => ?_) (fun hc => ?_)
  · replace h := iteT h hc
    refine zz_loc (L1 := [(0, .ref v0), (1, .int v1), (3, .int (v2 / 100)), (4, .int (v2 - v2 / 100 * 100))]) [2, 3, 1, 0] rfl ?_
    exact zBM_freeNow_73 hG C N hD hd E h
  · replace h := iteF h hc
    refine zz_aload_n C 2 ddM_freeNow_30 rfl rfl ?_
    refine zz_iload_n C 1 ddM_freeNow_31 rfl rfl ?_
    refine zz_iconst (v := 1) C ddM_freeNow_32 (by decide) ?_
    obtain ⟨h6, h⟩ := gdN h
    obtain ⟨q5, hq5, h⟩ := bindN h
    refine zz_callV0 (As := [.int (v2 / 100), .int 1]) C ddM_freeNow_33 wd_1378 my_M_of mv_M_of ⟨_, rfl, rfl⟩ (xM_of hG (d - 1) (by omega) hq5) (by omega) h6 rfl rfl (Nat.le_of_ble_eq_true rfl) ?_
    refine zz_iload_n C 3 ddM_freeNow_36 rfl rfl ?_
    refine zz_icmp_ne (tgt := 73) C ddM_freeNow_37 rfl (fun hc => ?_) (fun hc => ?_)
    · replace h := iteF h hc
      refine zz_loc (L1 := [(0, .ref v0), (1, .int v1), (3, .int (v2 / 100)), (4, .int (v2 - v2 / 100 * 100))]) [2, 3, 1, 0] rfl ?_
      exact zBM_freeNow_73 hG C N hD hd E h
    · replace h := iteT h hc
      refine zz_aload_n C 2 ddM_freeNow_40 rfl rfl ?_
      refine zz_iload_n C 1 ddM_freeNow_41 rfl rfl ?_
      refine zz_iconst (v := 1) C ddM_freeNow_42 (by decide) ?_
      obtain ⟨q7, hq7, h⟩ := bindN h
      refine zz_callS0 (As := [.int (v2 / 100), .int 1]) C ddM_freeNow_43 wd_1398 my_M_listAt mv_M_listAt (xM_listAt hG (d - 1) (by omega) hq7) (by omega) rfl rfl (Nat.le_of_ble_eq_true rfl) ?_
      refine zz_iload C 0 ddM_freeNow_46 rfl ?_
      obtain ⟨h9, h⟩ := gdN h
      obtain ⟨q8, hq8, h⟩ := bindN h
      refine zz_callV0 (As := [.int q7.1, .int (v2 - v2 / 100 * 100)]) C ddM_freeNow_48 wd_1499 my_M_addFirst mv_M_addFirst ⟨_, rfl, rfl⟩ (xM_addFirst hG (d - 1) (by omega) hq8) (by omega) h9 rfl rfl (Nat.le_of_ble_eq_true rfl) ?_
      refine zz_aload_n C 2 ddM_freeNow_51 rfl rfl ?_
      refine zz_iload_n C 1 ddM_freeNow_52 rfl rfl ?_
      refine zz_iconst (v := 0) C ddM_freeNow_53 (by decide) ?_
      obtain ⟨h11, h⟩ := gdN h
      obtain ⟨q10, hq10, h⟩ := bindN h
      refine zz_callV0 (As := [.int (v2 / 100), .int 0]) C ddM_freeNow_54 wd_1378 my_M_of mv_M_of ⟨_, rfl, rfl⟩ (xM_of hG (d - 1) (by omega) hq10) (by omega) h11 rfl rfl (Nat.le_of_ble_eq_true rfl) ?_
      refine zz_iconst (v := 2) C ddM_freeNow_57 (by decide) ?_
      refine zz_icmp_ne (tgt := 66) C ddM_freeNow_58 rfl (fun hc => ?_) (fun hc => ?_)
      · replace h := iteF h hc
        refine zz_loc (L1 := [(0, .ref v0), (3, .int (v2 / 100))]) [2, 1] rfl ?_
        exact zBM_freeNow_66 hG C N hD hd E h
      · replace h := iteT h hc
        refine zz_aload_n C 2 ddM_freeNow_61 rfl rfl ?_
        refine zz_iload_n C 1 ddM_freeNow_62 rfl rfl ?_
        obtain ⟨h13, h⟩ := gdN h
        obtain ⟨q12, hq12, h⟩ := bindN h
        refine zz_callV0 (As := [.int (v2 / 100)]) C ddM_freeNow_63 wd_1519 my_M_enqueue mv_M_enqueue ⟨_, rfl, rfl⟩ (xM_enqueue hG (d - 1) (by omega) hq12) (by omega) h13 rfl rfl (Nat.le_of_ble_eq_true rfl) ?_
        refine zz_loc (L1 := [(0, .ref v0), (3, .int (v2 / 100))]) [2, 1] rfl ?_
        exact zBM_freeNow_66 hG C N hD hd E h
theorem ddM_free_0 : decode cM_free 0 = .ok (.aload_n 0, 1) := by decide +kernel
theorem ddM_free_1 : decode cM_free 1 = .ok (.aload_n 0, 1) := by decide +kernel
theorem ddM_free_2 : decode cM_free 2 = .ok (.iload_n 1, 1) := by decide +kernel
theorem ddM_free_3 : decode cM_free 3 = .ok (.invokevirtual 163, 3) := by decide +kernel
theorem ddM_free_6 : decode cM_free 6 = .ok (.ifCond .eq 11, 3) := by decide +kernel
theorem ddM_free_9 : decode cM_free 9 = .ok (.aload_n 0, 1) := by decide +kernel
theorem ddM_free_10 : decode cM_free 10 = .ok (.iload_n 2, 1) := by decide +kernel
theorem ddM_free_11 : decode cM_free 11 = .ok (.invokevirtual 306, 3) := by decide +kernel
theorem ddM_free_14 : decode cM_free 14 = .ok (.ifCond .ne 7, 3) := by decide +kernel
theorem ddM_free_17 : decode cM_free 17 = .ok (.iconst 0, 1) := by decide +kernel
theorem ddM_free_18 : decode cM_free 18 = .ok (.goto 24, 3) := by decide +kernel
theorem ddM_free_21 : decode cM_free 21 = .ok (.aload_n 0, 1) := by decide +kernel
theorem ddM_free_22 : decode cM_free 22 = .ok (.iload_n 1, 1) := by decide +kernel
theorem ddM_free_23 : decode cM_free 23 = .ok (.invokevirtual 260, 3) := by decide +kernel
theorem ddM_free_26 : decode cM_free 26 = .ok (.ifCond .eq 11, 3) := by decide +kernel
theorem ddM_free_29 : decode cM_free 29 = .ok (.aload_n 0, 1) := by decide +kernel
theorem ddM_free_30 : decode cM_free 30 = .ok (.iload_n 2, 1) := by decide +kernel
theorem ddM_free_31 : decode cM_free 31 = .ok (.invokevirtual 309, 3) := by decide +kernel
theorem ddM_free_34 : decode cM_free 34 = .ok (.ifCond .ne 7, 3) := by decide +kernel
theorem ddM_free_37 : decode cM_free 37 = .ok (.iconst 2, 1) := by decide +kernel
theorem ddM_free_38 : decode cM_free 38 = .ok (.goto 4, 3) := by decide +kernel
theorem ddM_free_41 : decode cM_free 41 = .ok (.iconst (-1), 1) := by decide +kernel
theorem ddM_free_42 : decode cM_free 42 = .ok (.invokevirtual 315, 3) := by decide +kernel
theorem ddM_free_45 : decode cM_free 45 = .ok (.ifCond .eq 5, 3) := by decide +kernel
theorem ddM_free_48 : decode cM_free 48 = .ok (.iconst (-1), 1) := by decide +kernel
theorem ddM_free_49 : decode cM_free 49 = .ok (.ireturn, 1) := by decide +kernel
theorem ddM_free_50 : decode cM_free 50 = .ok (.aload_n 0, 1) := by decide +kernel
theorem ddM_free_51 : decode cM_free 51 = .ok (.invokevirtual 318, 3) := by decide +kernel
theorem ddM_free_54 : decode cM_free 54 = .ok (.aload_n 0, 1) := by decide +kernel
theorem ddM_free_55 : decode cM_free 55 = .ok (.iload_n 1, 1) := by decide +kernel
theorem ddM_free_56 : decode cM_free 56 = .ok (.iload_n 2, 1) := by decide +kernel
theorem ddM_free_57 : decode cM_free 57 = .ok (.invokevirtual 272, 3) := by decide +kernel
theorem ddM_free_60 : decode cM_free 60 = .ok (.ireturn, 1) := by decide +kernel
set_option maxHeartbeats 2000000 in
theorem zBM_free_42 {G : GXM} {X : CxM} (hG : GokM G) (C : CoM G X cM_free "HomeFreedModel") (N : mLM X = 3) {d : Nat} (hD : dpM X = d) (hd : 6 ≤ d)  {q : Int32 × Mem} (E : EnM G X (some .int) (some (.int q.1)) q.2 0 0) {v0 : Nat} {v1 : Int32} {v2 : Int32} {w0 : Nat} {w1 : Int32} {M : Mem} (h : BM_free_42 v0 v1 v2 w0 w1 M = some q) : ZM G X 42 [(0, .ref v0), (1, .int v1), (2, .int v2)] [.int w1, .ref w0] M 0 0 := by
  unfold BM_free_42 at h
  obtain ⟨h2, h⟩ := gdN h
  obtain ⟨q1, hq1, h⟩ := bindN h
  refine zz_callV0 (As := [.int w1]) C ddM_free_42 wd_1475 my_M_isRefused mv_M_isRefused ⟨_, rfl, rfl⟩ (xM_isRefused hG (d - 1) (by omega) hq1) (by omega) h2 rfl rfl (Nat.le_of_ble_eq_true rfl) ?_
  refine zz_if_eq (tgt := 50) C ddM_free_45 rfl (fun hc => ?_) (fun hc => ?_)
  · replace h := iteT h hc
    refine zz_aload_n C 0 ddM_free_50 rfl rfl ?_
    obtain ⟨h4, h⟩ := gdN h
    obtain ⟨q3, hq3, h⟩ := bindN h
    refine zz_callV0 (As := []) C ddM_free_51 wd_1479 my_M_keep mv_M_keep ⟨_, rfl, rfl⟩ (xM_keep hG (d - 1) (by omega) hq3) (by omega) h4 rfl rfl (Nat.le_of_ble_eq_true rfl) ?_
    refine zz_aload_n C 0 ddM_free_54 rfl rfl ?_
    refine zz_iload_n C 1 ddM_free_55 rfl rfl ?_
    refine zz_iload_n C 2 ddM_free_56 rfl rfl ?_
    obtain ⟨h6, h⟩ := gdN h
    obtain ⟨q5, hq5, h⟩ := bindN h
    refine zz_callV0 (As := [.int v1, .int v2]) C ddM_free_57 wd_1563 my_M_freeNow mv_M_freeNow ⟨_, rfl, rfl⟩ (xM_freeNow hG (d - 1) (by omega) hq5) (by omega) h6 rfl rfl (Nat.le_of_ble_eq_true rfl) ?_
    obtain rfl := Option.some.inj h
    exact zz_iret C E ddM_free_60
  · replace h := iteF h hc
    refine zz_iconst (v := (-1)) C ddM_free_48 (by decide) ?_
    obtain rfl := Option.some.inj h
    exact zz_iret C E ddM_free_49
set_option maxHeartbeats 2000000 in
theorem zBM_free_37 {G : GXM} {X : CxM} (hG : GokM G) (C : CoM G X cM_free "HomeFreedModel") (N : mLM X = 3) {d : Nat} (hD : dpM X = d) (hd : 6 ≤ d)  {q : Int32 × Mem} (E : EnM G X (some .int) (some (.int q.1)) q.2 0 0) {v0 : Nat} {v1 : Int32} {v2 : Int32} {w0 : Nat} {M : Mem} (h : BM_free_37 v0 v1 v2 w0 M = some q) : ZM G X 37 [(0, .ref v0), (1, .int v1), (2, .int v2)] [.ref w0] M 0 0 := by
  unfold BM_free_37 at h
  refine zz_iconst (v := 2) C ddM_free_37 (by decide) ?_
  refine zz_goto (tgt := 42) C ddM_free_38 rfl ?_
  exact zBM_free_42 hG C N hD hd E h
set_option maxHeartbeats 2000000 in
theorem zBM_free_17 {G : GXM} {X : CxM} (hG : GokM G) (C : CoM G X cM_free "HomeFreedModel") (N : mLM X = 3) {d : Nat} (hD : dpM X = d) (hd : 6 ≤ d)  {q : Int32 × Mem} (E : EnM G X (some .int) (some (.int q.1)) q.2 0 0) {v0 : Nat} {v1 : Int32} {v2 : Int32} {w0 : Nat} {M : Mem} (h : BM_free_17 v0 v1 v2 w0 M = some q) : ZM G X 17 [(0, .ref v0), (1, .int v1), (2, .int v2)] [.ref w0] M 0 0 := by
  unfold BM_free_17 at h
  refine zz_iconst (v := 0) C ddM_free_17 (by decide) ?_
  refine zz_goto (tgt := 42) C ddM_free_18 rfl ?_
  exact zBM_free_42 hG C N hD hd E h
set_option maxHeartbeats 2000000 in
theorem xM_free {G : GXM} {l : Launch} (hG : GokM G) (d : Nat) (hd : 6 ≤ d) {v0 : Nat} {v1 : Int32} {v2 : Int32} {M : Mem} {q : Int32 × Mem} (h : fM_free v0 v1 v2 M = some q) : ExM G l d 0 0 yM_free cM_free 3 (some .int) [.ref v0, .int v1, .int v2] M (some (.int q.1)) q.2 := by
  refine ex_of hG (by decide) (Nat.le_of_ble_eq_true rfl) ?_
  intro X hl C E N hD hn
  show ZM G X 0 [(0, .ref v0), (1, .int v1), (2, .int v2)] [] M 0 0
  unfold fM_free at h
  refine zz_aload_n C 0 ddM_free_0 rfl rfl ?_
  refine zz_aload_n C 0 ddM_free_1 rfl rfl ?_
  refine zz_iload_n C 1 ddM_free_2 rfl rfl ?_
  obtain ⟨h2, h⟩ := gdN h
  obtain ⟨q1, hq1, h⟩ := bindN h
  refine zz_callV0 (As := [.int v1]) C ddM_free_3 wd_1409 my_M_isThread mv_M_isThread ⟨_, rfl, rfl⟩ (xM_isThread hG (d - 1) (by omega) hq1) (by omega) h2 rfl rfl (Nat.le_of_ble_eq_true rfl) ?_
  refine zz_if_eq (tgt := 17) C ddM_free_6 rfl (fun hc => ?_) (fun hc => ?_)
  · replace h := iteT h hc
    exact zBM_free_17 hG C N hD hd E h
  · replace h := iteF h hc
    refine zz_aload_n C 0 ddM_free_9 rfl rfl ?_
    refine zz_iload_n C 2 ddM_free_10 rfl rfl ?_
    obtain ⟨h4, h⟩ := gdN h
    obtain ⟨q3, hq3, h⟩ := bindN h
    refine zz_callV0 (As := [.int v2]) C ddM_free_11 wd_1443 my_M_isBlock mv_M_isBlock ⟨_, rfl, rfl⟩ (xM_isBlock hG (d - 1) (by omega) hq3) (by omega) h4 rfl rfl (Nat.le_of_ble_eq_true rfl) ?_
    refine zz_if_ne (tgt := 21) C ddM_free_14 rfl (fun hc => ?_) (fun hc => ?_)
    · replace h := iteF h hc
      refine zz_aload_n C 0 ddM_free_21 rfl rfl ?_
      refine zz_iload_n C 1 ddM_free_22 rfl rfl ?_
      obtain ⟨h6, h⟩ := gdN h
      obtain ⟨q5, hq5, h⟩ := bindN h
      refine zz_callV0 (As := [.int v1]) C ddM_free_23 wd_1463 my_M_doesLive mv_M_doesLive ⟨_, rfl, rfl⟩ (xM_doesLive hG (d - 1) (by omega) hq5) (by omega) h6 rfl rfl (Nat.le_of_ble_eq_true rfl) ?_
      refine zz_if_eq (tgt := 37) C ddM_free_26 rfl (fun hc => ?_) (fun hc => ?_)
      · replace h := iteT h hc
        exact zBM_free_37 hG C N hD hd E h
      · replace h := iteF h hc
        refine zz_aload_n C 0 ddM_free_29 rfl rfl ?_
        refine zz_iload_n C 2 ddM_free_30 rfl rfl ?_
        obtain ⟨h8, h⟩ := gdN h
        obtain ⟨q7, hq7, h⟩ := bindN h
        refine zz_callV0 (As := [.int v2]) C ddM_free_31 wd_1447 my_M_isHeld mv_M_isHeld ⟨_, rfl, rfl⟩ (xM_isHeld hG (d - 1) (by omega) hq7) (by omega) h8 rfl rfl (Nat.le_of_ble_eq_true rfl) ?_
        refine zz_if_ne (tgt := 41) C ddM_free_34 rfl (fun hc => ?_) (fun hc => ?_)
        · replace h := iteF h hc
          refine zz_iconst (v := (-1)) C ddM_free_41 (by decide) ?_
          exact zBM_free_42 hG C N hD hd E h
        · replace h := iteT h hc
          exact zBM_free_37 hG C N hD hd E h
    · replace h := iteT h hc
      exact zBM_free_17 hG C N hD hd E h
theorem ddM_tick_0 : decode cM_tick 0 = .ok (.aload_n 0, 1) := by decide +kernel
theorem ddM_tick_1 : decode cM_tick 1 = .ok (.aload_n 0, 1) := by decide +kernel
theorem ddM_tick_2 : decode cM_tick 2 = .ok (.iload_n 1, 1) := by decide +kernel
theorem ddM_tick_3 : decode cM_tick 3 = .ok (.invokevirtual 163, 3) := by decide +kernel
theorem ddM_tick_6 : decode cM_tick 6 = .ok (.ifCond .ne 7, 3) := by decide +kernel
theorem ddM_tick_9 : decode cM_tick 9 = .ok (.iconst 0, 1) := by decide +kernel
theorem ddM_tick_10 : decode cM_tick 10 = .ok (.goto 16, 3) := by decide +kernel
theorem ddM_tick_13 : decode cM_tick 13 = .ok (.aload_n 0, 1) := by decide +kernel
theorem ddM_tick_14 : decode cM_tick 14 = .ok (.iload_n 1, 1) := by decide +kernel
theorem ddM_tick_15 : decode cM_tick 15 = .ok (.invokevirtual 260, 3) := by decide +kernel
theorem ddM_tick_18 : decode cM_tick 18 = .ok (.ifCond .ne 7, 3) := by decide +kernel
theorem ddM_tick_21 : decode cM_tick 21 = .ok (.iconst 2, 1) := by decide +kernel
theorem ddM_tick_22 : decode cM_tick 22 = .ok (.goto 4, 3) := by decide +kernel
theorem ddM_tick_25 : decode cM_tick 25 = .ok (.iconst (-1), 1) := by decide +kernel
theorem ddM_tick_26 : decode cM_tick 26 = .ok (.invokevirtual 315, 3) := by decide +kernel
theorem ddM_tick_29 : decode cM_tick 29 = .ok (.ifCond .eq 5, 3) := by decide +kernel
theorem ddM_tick_32 : decode cM_tick 32 = .ok (.iconst (-1), 1) := by decide +kernel
theorem ddM_tick_33 : decode cM_tick 33 = .ok (.ireturn, 1) := by decide +kernel
theorem ddM_tick_34 : decode cM_tick 34 = .ok (.aload_n 0, 1) := by decide +kernel
theorem ddM_tick_35 : decode cM_tick 35 = .ok (.invokevirtual 318, 3) := by decide +kernel
theorem ddM_tick_38 : decode cM_tick 38 = .ok (.aload_n 0, 1) := by decide +kernel
theorem ddM_tick_39 : decode cM_tick 39 = .ok (.iload_n 1, 1) := by decide +kernel
theorem ddM_tick_40 : decode cM_tick 40 = .ok (.invokevirtual 235, 3) := by decide +kernel
theorem ddM_tick_43 : decode cM_tick 43 = .ok (.aload_n 0, 1) := by decide +kernel
theorem ddM_tick_44 : decode cM_tick 44 = .ok (.iload_n 1, 1) := by decide +kernel
theorem ddM_tick_45 : decode cM_tick 45 = .ok (.invokevirtual 300, 3) := by decide +kernel
theorem ddM_tick_48 : decode cM_tick 48 = .ok (.ireturn, 1) := by decide +kernel
set_option maxHeartbeats 2000000 in
theorem zBM_tick_26 {G : GXM} {X : CxM} (hG : GokM G) (C : CoM G X cM_tick "HomeFreedModel") (N : mLM X = 2) {d : Nat} (hD : dpM X = d) (hd : 7 ≤ d)  {q : Int32 × Mem} (E : EnM G X (some .int) (some (.int q.1)) q.2 0 0) {v0 : Nat} {v1 : Int32} {w0 : Nat} {w1 : Int32} {M : Mem} (h : BM_tick_26 v0 v1 w0 w1 M = some q) : ZM G X 26 [(0, .ref v0), (1, .int v1)] [.int w1, .ref w0] M 0 0 := by
  unfold BM_tick_26 at h
  obtain ⟨h2, h⟩ := gdN h
  obtain ⟨q1, hq1, h⟩ := bindN h
  refine zz_callV0 (As := [.int w1]) C ddM_tick_26 wd_1475 my_M_isRefused mv_M_isRefused ⟨_, rfl, rfl⟩ (xM_isRefused hG (d - 1) (by omega) hq1) (by omega) h2 rfl rfl (Nat.le_of_ble_eq_true rfl) ?_
  refine zz_if_eq (tgt := 34) C ddM_tick_29 rfl (fun hc => ?_) (fun hc => ?_)
  · replace h := iteT h hc
    refine zz_aload_n C 0 ddM_tick_34 rfl rfl ?_
    obtain ⟨h4, h⟩ := gdN h
    obtain ⟨q3, hq3, h⟩ := bindN h
    refine zz_callV0 (As := []) C ddM_tick_35 wd_1479 my_M_keep mv_M_keep ⟨_, rfl, rfl⟩ (xM_keep hG (d - 1) (by omega) hq3) (by omega) h4 rfl rfl (Nat.le_of_ble_eq_true rfl) ?_
    refine zz_aload_n C 0 ddM_tick_38 rfl rfl ?_
    refine zz_iload_n C 1 ddM_tick_39 rfl rfl ?_
    obtain ⟨h6, h⟩ := gdN h
    obtain ⟨q5, hq5, h⟩ := bindN h
    refine zz_callV0 (As := [.int v1]) C ddM_tick_40 wd_1527 my_M_tickNow mv_M_tickNow ⟨_, rfl, rfl⟩ (xM_tickNow hG (d - 1) (by omega) hq5) (by omega) h6 rfl rfl (Nat.le_of_ble_eq_true rfl) ?_
    refine zz_aload_n C 0 ddM_tick_43 rfl rfl ?_
    refine zz_iload_n C 1 ddM_tick_44 rfl rfl ?_
    obtain ⟨h8, h⟩ := gdN h
    obtain ⟨q7, hq7, h⟩ := bindN h
    refine zz_callV0 (As := [.int v1]) C ddM_tick_45 wd_1413 my_M_ownedBy mv_M_ownedBy ⟨_, rfl, rfl⟩ (xM_ownedBy hG (d - 1) (by omega) hq7) (by omega) h8 rfl rfl (Nat.le_of_ble_eq_true rfl) ?_
    obtain rfl := Option.some.inj h
    exact zz_iret C E ddM_tick_48
  · replace h := iteF h hc
    refine zz_iconst (v := (-1)) C ddM_tick_32 (by decide) ?_
    obtain rfl := Option.some.inj h
    exact zz_iret C E ddM_tick_33
set_option maxHeartbeats 2000000 in
theorem xM_tick {G : GXM} {l : Launch} (hG : GokM G) (d : Nat) (hd : 7 ≤ d) {v0 : Nat} {v1 : Int32} {M : Mem} {q : Int32 × Mem} (h : fM_tick v0 v1 M = some q) : ExM G l d 0 0 yM_tick cM_tick 2 (some .int) [.ref v0, .int v1] M (some (.int q.1)) q.2 := by
  refine ex_of hG (by decide) (Nat.le_of_ble_eq_true rfl) ?_
  intro X hl C E N hD hn
  show ZM G X 0 [(0, .ref v0), (1, .int v1)] [] M 0 0
  unfold fM_tick at h
  refine zz_aload_n C 0 ddM_tick_0 rfl rfl ?_
  refine zz_aload_n C 0 ddM_tick_1 rfl rfl ?_
  refine zz_iload_n C 1 ddM_tick_2 rfl rfl ?_
  obtain ⟨h2, h⟩ := gdN h
  obtain ⟨q1, hq1, h⟩ := bindN h
  refine zz_callV0 (As := [.int v1]) C ddM_tick_3 wd_1409 my_M_isThread mv_M_isThread ⟨_, rfl, rfl⟩ (xM_isThread hG (d - 1) (by omega) hq1) (by omega) h2 rfl rfl (Nat.le_of_ble_eq_true rfl) ?_
  refine zz_if_ne (tgt := 13) C ddM_tick_6 rfl (fun hc => ?_) (fun hc => ?_)
  · replace h := iteF h hc
    refine zz_aload_n C 0 ddM_tick_13 rfl rfl ?_
    refine zz_iload_n C 1 ddM_tick_14 rfl rfl ?_
    obtain ⟨h4, h⟩ := gdN h
    obtain ⟨q3, hq3, h⟩ := bindN h
    refine zz_callV0 (As := [.int v1]) C ddM_tick_15 wd_1463 my_M_doesLive mv_M_doesLive ⟨_, rfl, rfl⟩ (xM_doesLive hG (d - 1) (by omega) hq3) (by omega) h4 rfl rfl (Nat.le_of_ble_eq_true rfl) ?_
    refine zz_if_ne (tgt := 25) C ddM_tick_18 rfl (fun hc => ?_) (fun hc => ?_)
    · replace h := iteF h hc
      refine zz_iconst (v := (-1)) C ddM_tick_25 (by decide) ?_
      exact zBM_tick_26 hG C N hD hd E h
    · replace h := iteT h hc
      refine zz_iconst (v := 2) C ddM_tick_21 (by decide) ?_
      refine zz_goto (tgt := 26) C ddM_tick_22 rfl ?_
      exact zBM_tick_26 hG C N hD hd E h
  · replace h := iteT h hc
    refine zz_iconst (v := 0) C ddM_tick_9 (by decide) ?_
    refine zz_goto (tgt := 26) C ddM_tick_10 rfl ?_
    exact zBM_tick_26 hG C N hD hd E h
theorem ddM_send_0 : decode cM_send 0 = .ok (.aload_n 0, 1) := by decide +kernel
theorem ddM_send_1 : decode cM_send 1 = .ok (.aload_n 0, 1) := by decide +kernel
theorem ddM_send_2 : decode cM_send 2 = .ok (.iload_n 1, 1) := by decide +kernel
theorem ddM_send_3 : decode cM_send 3 = .ok (.invokevirtual 163, 3) := by decide +kernel
theorem ddM_send_6 : decode cM_send 6 = .ok (.ifCond .ne 7, 3) := by decide +kernel
theorem ddM_send_9 : decode cM_send 9 = .ok (.iconst 0, 1) := by decide +kernel
theorem ddM_send_10 : decode cM_send 10 = .ok (.goto 16, 3) := by decide +kernel
theorem ddM_send_13 : decode cM_send 13 = .ok (.aload_n 0, 1) := by decide +kernel
theorem ddM_send_14 : decode cM_send 14 = .ok (.iload_n 1, 1) := by decide +kernel
theorem ddM_send_15 : decode cM_send 15 = .ok (.invokevirtual 260, 3) := by decide +kernel
theorem ddM_send_18 : decode cM_send 18 = .ok (.ifCond .ne 7, 3) := by decide +kernel
theorem ddM_send_21 : decode cM_send 21 = .ok (.iconst 2, 1) := by decide +kernel
theorem ddM_send_22 : decode cM_send 22 = .ok (.goto 4, 3) := by decide +kernel
theorem ddM_send_25 : decode cM_send 25 = .ok (.iconst (-1), 1) := by decide +kernel
theorem ddM_send_26 : decode cM_send 26 = .ok (.invokevirtual 315, 3) := by decide +kernel
theorem ddM_send_29 : decode cM_send 29 = .ok (.ifCond .eq 5, 3) := by decide +kernel
theorem ddM_send_32 : decode cM_send 32 = .ok (.iconst (-1), 1) := by decide +kernel
theorem ddM_send_33 : decode cM_send 33 = .ok (.ireturn, 1) := by decide +kernel
theorem ddM_send_34 : decode cM_send 34 = .ok (.aload_n 0, 1) := by decide +kernel
theorem ddM_send_35 : decode cM_send 35 = .ok (.invokevirtual 318, 3) := by decide +kernel
theorem ddM_send_38 : decode cM_send 38 = .ok (.aload_n 0, 1) := by decide +kernel
theorem ddM_send_39 : decode cM_send 39 = .ok (.iload_n 1, 1) := by decide +kernel
theorem ddM_send_40 : decode cM_send 40 = .ok (.invokevirtual 250, 3) := by decide +kernel
theorem ddM_send_43 : decode cM_send 43 = .ok (.ireturn, 1) := by decide +kernel
set_option maxHeartbeats 2000000 in
theorem zBM_send_26 {G : GXM} {X : CxM} (hG : GokM G) (C : CoM G X cM_send "HomeFreedModel") (N : mLM X = 2) {d : Nat} (hD : dpM X = d) (hd : 6 ≤ d)  {q : Int32 × Mem} (E : EnM G X (some .int) (some (.int q.1)) q.2 0 0) {v0 : Nat} {v1 : Int32} {w0 : Nat} {w1 : Int32} {M : Mem} (h : BM_send_26 v0 v1 w0 w1 M = some q) : ZM G X 26 [(0, .ref v0), (1, .int v1)] [.int w1, .ref w0] M 0 0 := by
  unfold BM_send_26 at h
  obtain ⟨h2, h⟩ := gdN h
  obtain ⟨q1, hq1, h⟩ := bindN h
  refine zz_callV0 (As := [.int w1]) C ddM_send_26 wd_1475 my_M_isRefused mv_M_isRefused ⟨_, rfl, rfl⟩ (xM_isRefused hG (d - 1) (by omega) hq1) (by omega) h2 rfl rfl (Nat.le_of_ble_eq_true rfl) ?_
  refine zz_if_eq (tgt := 34) C ddM_send_29 rfl (fun hc => ?_) (fun hc => ?_)
  · replace h := iteT h hc
    refine zz_aload_n C 0 ddM_send_34 rfl rfl ?_
    obtain ⟨h4, h⟩ := gdN h
    obtain ⟨q3, hq3, h⟩ := bindN h
    refine zz_callV0 (As := []) C ddM_send_35 wd_1479 my_M_keep mv_M_keep ⟨_, rfl, rfl⟩ (xM_keep hG (d - 1) (by omega) hq3) (by omega) h4 rfl rfl (Nat.le_of_ble_eq_true rfl) ?_
    refine zz_aload_n C 0 ddM_send_38 rfl rfl ?_
    refine zz_iload_n C 1 ddM_send_39 rfl rfl ?_
    obtain ⟨h6, h⟩ := gdN h
    obtain ⟨q5, hq5, h⟩ := bindN h
    refine zz_callV0 (As := [.int v1]) C ddM_send_40 wd_1531 my_M_sendNow mv_M_sendNow ⟨_, rfl, rfl⟩ (xM_sendNow hG (d - 1) (by omega) hq5) (by omega) h6 rfl rfl (Nat.le_of_ble_eq_true rfl) ?_
    obtain rfl := Option.some.inj h
    exact zz_iret C E ddM_send_43
  · replace h := iteF h hc
    refine zz_iconst (v := (-1)) C ddM_send_32 (by decide) ?_
    obtain rfl := Option.some.inj h
    exact zz_iret C E ddM_send_33
set_option maxHeartbeats 2000000 in
theorem xM_send {G : GXM} {l : Launch} (hG : GokM G) (d : Nat) (hd : 6 ≤ d) {v0 : Nat} {v1 : Int32} {M : Mem} {q : Int32 × Mem} (h : fM_send v0 v1 M = some q) : ExM G l d 0 0 yM_send cM_send 2 (some .int) [.ref v0, .int v1] M (some (.int q.1)) q.2 := by
  refine ex_of hG (by decide) (Nat.le_of_ble_eq_true rfl) ?_
  intro X hl C E N hD hn
  show ZM G X 0 [(0, .ref v0), (1, .int v1)] [] M 0 0
  unfold fM_send at h
  refine zz_aload_n C 0 ddM_send_0 rfl rfl ?_
  refine zz_aload_n C 0 ddM_send_1 rfl rfl ?_
  refine zz_iload_n C 1 ddM_send_2 rfl rfl ?_
  obtain ⟨h2, h⟩ := gdN h
  obtain ⟨q1, hq1, h⟩ := bindN h
  refine zz_callV0 (As := [.int v1]) C ddM_send_3 wd_1409 my_M_isThread mv_M_isThread ⟨_, rfl, rfl⟩ (xM_isThread hG (d - 1) (by omega) hq1) (by omega) h2 rfl rfl (Nat.le_of_ble_eq_true rfl) ?_
  refine zz_if_ne (tgt := 13) C ddM_send_6 rfl (fun hc => ?_) (fun hc => ?_)
  · replace h := iteF h hc
    refine zz_aload_n C 0 ddM_send_13 rfl rfl ?_
    refine zz_iload_n C 1 ddM_send_14 rfl rfl ?_
    obtain ⟨h4, h⟩ := gdN h
    obtain ⟨q3, hq3, h⟩ := bindN h
    refine zz_callV0 (As := [.int v1]) C ddM_send_15 wd_1463 my_M_doesLive mv_M_doesLive ⟨_, rfl, rfl⟩ (xM_doesLive hG (d - 1) (by omega) hq3) (by omega) h4 rfl rfl (Nat.le_of_ble_eq_true rfl) ?_
    refine zz_if_ne (tgt := 25) C ddM_send_18 rfl (fun hc => ?_) (fun hc => ?_)
    · replace h := iteF h hc
      refine zz_iconst (v := (-1)) C ddM_send_25 (by decide) ?_
      exact zBM_send_26 hG C N hD hd E h
    · replace h := iteT h hc
      refine zz_iconst (v := 2) C ddM_send_21 (by decide) ?_
      refine zz_goto (tgt := 26) C ddM_send_22 rfl ?_
      exact zBM_send_26 hG C N hD hd E h
  · replace h := iteT h hc
    refine zz_iconst (v := 0) C ddM_send_9 (by decide) ?_
    refine zz_goto (tgt := 26) C ddM_send_10 rfl ?_
    exact zBM_send_26 hG C N hD hd E h
theorem ddM_turnNow_0 : decode cM_turnNow 0 = .ok (.aload_n 0, 1) := by decide +kernel
theorem ddM_turnNow_1 : decode cM_turnNow 1 = .ok (.getfield 31, 3) := by decide +kernel
theorem ddM_turnNow_4 : decode cM_turnNow 4 = .ok (.sipush 3704, 3) := by decide +kernel
theorem ddM_turnNow_7 : decode cM_turnNow 7 = .ok (.iload_n 1, 1) := by decide +kernel
theorem ddM_turnNow_8 : decode cM_turnNow 8 = .ok (.iadd, 1) := by decide +kernel
theorem ddM_turnNow_9 : decode cM_turnNow 9 = .ok (.iconst 1, 1) := by decide +kernel
theorem ddM_turnNow_10 : decode cM_turnNow 10 = .ok (.aload_n 0, 1) := by decide +kernel
theorem ddM_turnNow_11 : decode cM_turnNow 11 = .ok (.getfield 31, 3) := by decide +kernel
theorem ddM_turnNow_14 : decode cM_turnNow 14 = .ok (.sipush 3704, 3) := by decide +kernel
theorem ddM_turnNow_17 : decode cM_turnNow 17 = .ok (.iload_n 1, 1) := by decide +kernel
theorem ddM_turnNow_18 : decode cM_turnNow 18 = .ok (.iadd, 1) := by decide +kernel
theorem ddM_turnNow_19 : decode cM_turnNow 19 = .ok (.iaload, 1) := by decide +kernel
theorem ddM_turnNow_20 : decode cM_turnNow 20 = .ok (.isub, 1) := by decide +kernel
theorem ddM_turnNow_21 : decode cM_turnNow 21 = .ok (.iastore, 1) := by decide +kernel
theorem ddM_turnNow_22 : decode cM_turnNow 22 = .ok (.aload_n 0, 1) := by decide +kernel
theorem ddM_turnNow_23 : decode cM_turnNow 23 = .ok (.getfield 31, 3) := by decide +kernel
theorem ddM_turnNow_26 : decode cM_turnNow 26 = .ok (.sipush 3704, 3) := by decide +kernel
theorem ddM_turnNow_29 : decode cM_turnNow 29 = .ok (.iload_n 1, 1) := by decide +kernel
theorem ddM_turnNow_30 : decode cM_turnNow 30 = .ok (.iadd, 1) := by decide +kernel
theorem ddM_turnNow_31 : decode cM_turnNow 31 = .ok (.iaload, 1) := by decide +kernel
theorem ddM_turnNow_32 : decode cM_turnNow 32 = .ok (.iconst 1, 1) := by decide +kernel
theorem ddM_turnNow_33 : decode cM_turnNow 33 = .ok (.if_icmp .ne 4, 3) := by decide +kernel
theorem ddM_turnNow_36 : decode cM_turnNow 36 = .ok (.return_, 1) := by decide +kernel
theorem ddM_turnNow_37 : decode cM_turnNow 37 = .ok (.aload_n 0, 1) := by decide +kernel
theorem ddM_turnNow_38 : decode cM_turnNow 38 = .ok (.iload_n 1, 1) := by decide +kernel
theorem ddM_turnNow_39 : decode cM_turnNow 39 = .ok (.invokevirtual 250, 3) := by decide +kernel
theorem ddM_turnNow_42 : decode cM_turnNow 42 = .ok (.pop, 1) := by decide +kernel
theorem ddM_turnNow_43 : decode cM_turnNow 43 = .ok (.iconst 0, 1) := by decide +kernel
theorem ddM_turnNow_44 : decode cM_turnNow 44 = .ok (.istore_n 2, 1) := by decide +kernel
theorem ddM_turnNow_45 : decode cM_turnNow 45 = .ok (.iload_n 2, 1) := by decide +kernel
theorem ddM_turnNow_46 : decode cM_turnNow 46 = .ok (.aload_n 0, 1) := by decide +kernel
theorem ddM_turnNow_47 : decode cM_turnNow 47 = .ok (.getfield 19, 3) := by decide +kernel
theorem ddM_turnNow_50 : decode cM_turnNow 50 = .ok (.iconst 1, 1) := by decide +kernel
theorem ddM_turnNow_51 : decode cM_turnNow 51 = .ok (.iaload, 1) := by decide +kernel
theorem ddM_turnNow_52 : decode cM_turnNow 52 = .ok (.if_icmp .ge 55, 3) := by decide +kernel
theorem ddM_turnNow_55 : decode cM_turnNow 55 = .ok (.aload_n 0, 1) := by decide +kernel
theorem ddM_turnNow_56 : decode cM_turnNow 56 = .ok (.iload_n 2, 1) := by decide +kernel
theorem ddM_turnNow_57 : decode cM_turnNow 57 = .ok (.iload_n 1, 1) := by decide +kernel
theorem ddM_turnNow_58 : decode cM_turnNow 58 = .ok (.invokevirtual 253, 3) := by decide +kernel
theorem ddM_turnNow_61 : decode cM_turnNow 61 = .ok (.ifCond .eq 19, 3) := by decide +kernel
theorem ddM_turnNow_64 : decode cM_turnNow 64 = .ok (.aload_n 0, 1) := by decide +kernel
theorem ddM_turnNow_65 : decode cM_turnNow 65 = .ok (.iload_n 2, 1) := by decide +kernel
theorem ddM_turnNow_66 : decode cM_turnNow 66 = .ok (.invokevirtual 201, 3) := by decide +kernel
theorem ddM_turnNow_69 : decode cM_turnNow 69 = .ok (.ifCond .ne 11, 3) := by decide +kernel
theorem ddM_turnNow_72 : decode cM_turnNow 72 = .ok (.aload_n 0, 1) := by decide +kernel
theorem ddM_turnNow_73 : decode cM_turnNow 73 = .ok (.iload_n 2, 1) := by decide +kernel
theorem ddM_turnNow_74 : decode cM_turnNow 74 = .ok (.invokevirtual 204, 3) := by decide +kernel
theorem ddM_turnNow_77 : decode cM_turnNow 77 = .ok (.goto 24, 3) := by decide +kernel
theorem ddM_turnNow_80 : decode cM_turnNow 80 = .ok (.aload_n 0, 1) := by decide +kernel
theorem ddM_turnNow_81 : decode cM_turnNow 81 = .ok (.iload_n 2, 1) := by decide +kernel
theorem ddM_turnNow_82 : decode cM_turnNow 82 = .ok (.iload_n 1, 1) := by decide +kernel
theorem ddM_turnNow_83 : decode cM_turnNow 83 = .ok (.invokevirtual 253, 3) := by decide +kernel
theorem ddM_turnNow_86 : decode cM_turnNow 86 = .ok (.ifCond .eq 15, 3) := by decide +kernel
theorem ddM_turnNow_89 : decode cM_turnNow 89 = .ok (.aload_n 0, 1) := by decide +kernel
theorem ddM_turnNow_90 : decode cM_turnNow 90 = .ok (.iload_n 2, 1) := by decide +kernel
theorem ddM_turnNow_91 : decode cM_turnNow 91 = .ok (.invokevirtual 198, 3) := by decide +kernel
theorem ddM_turnNow_94 : decode cM_turnNow 94 = .ok (.aload_n 0, 1) := by decide +kernel
theorem ddM_turnNow_95 : decode cM_turnNow 95 = .ok (.iload_n 2, 1) := by decide +kernel
theorem ddM_turnNow_96 : decode cM_turnNow 96 = .ok (.iconst 0, 1) := by decide +kernel
theorem ddM_turnNow_97 : decode cM_turnNow 97 = .ok (.iconst 3, 1) := by decide +kernel
theorem ddM_turnNow_98 : decode cM_turnNow 98 = .ok (.invokevirtual 185, 3) := by decide +kernel
theorem ddM_turnNow_101 : decode cM_turnNow 101 = .ok (.iinc 2 1, 3) := by decide +kernel
theorem ddM_turnNow_104 : decode cM_turnNow 104 = .ok (.goto (-59), 3) := by decide +kernel
theorem ddM_turnNow_107 : decode cM_turnNow 107 = .ok (.return_, 1) := by decide +kernel
set_option maxHeartbeats 2000000 in
theorem zBM_turnNow_101 {G : GXM} {X : CxM} (hG : GokM G) (C : CoM G X cM_turnNow "HomeFreedModel") (N : mLM X = 3) {d : Nat} (hD : dpM X = d) (hd : 6 ≤ d) {v0 : Nat} {v1 : Int32} {K : Nat → Int32 → Int32 → Mem → Option ((Mem))} {q : (Mem)} (hK : ∀ (v2 : Int32) (M : Mem), K v0 v1 v2 M = some q → ZM G X 45 [(0, .ref v0), (1, .int v1), (2, .int v2)] [] M 0 0) (hr : ∀ r : Mem, q =  r → EnM G X none none r 0 0) {v2 : Int32} {M : Mem} (h : BM_turnNow_101 K v0 v1 v2 M = some q) : ZM G X 101 [(0, .ref v0), (1, .int v1), (2, .int v2)] [] M 0 0 := by
  unfold BM_turnNow_101 at h
  refine zz_iinc (v := v2 + 1) (L1 := [(2, .int (v2 + 1)), (0, .ref v0), (1, .int v1)]) C 2 ddM_turnNow_101 rfl rfl N (by decide) rfl ?_
  refine zz_goto (tgt := 45) C ddM_turnNow_104 rfl ?_
  refine zz_loc (L1 := [(0, .ref v0), (1, .int v1), (2, .int (v2 + 1))]) [1, 2, 0] rfl ?_
  exact hK _ _ h
set_option maxHeartbeats 2000000 in
theorem zBM_turnNow_80 {G : GXM} {X : CxM} (hG : GokM G) (C : CoM G X cM_turnNow "HomeFreedModel") (N : mLM X = 3) {d : Nat} (hD : dpM X = d) (hd : 6 ≤ d) {v0 : Nat} {v1 : Int32} {K : Nat → Int32 → Int32 → Mem → Option ((Mem))} {q : (Mem)} (hK : ∀ (v2 : Int32) (M : Mem), K v0 v1 v2 M = some q → ZM G X 45 [(0, .ref v0), (1, .int v1), (2, .int v2)] [] M 0 0) (hr : ∀ r : Mem, q =  r → EnM G X none none r 0 0) {v2 : Int32} {M : Mem} (h : BM_turnNow_80 K v0 v1 v2 M = some q) : ZM G X 80 [(0, .ref v0), (1, .int v1), (2, .int v2)] [] M 0 0 := by
  unfold BM_turnNow_80 at h
  refine zz_aload_n C 0 ddM_turnNow_80 rfl rfl ?_
  refine zz_iload_n C 2 ddM_turnNow_81 rfl rfl ?_
  refine zz_iload_n C 1 ddM_turnNow_82 rfl rfl ?_
  obtain ⟨h2, h⟩ := gdN h
  obtain ⟨q1, hq1, h⟩ := bindN h
  refine zz_callV0 (As := [.int v2, .int v1]) C ddM_turnNow_83 wd_1417 my_M_isOf mv_M_isOf ⟨_, rfl, rfl⟩ (xM_isOf hG (d - 1) (by omega) hq1) (by omega) h2 rfl rfl (Nat.le_of_ble_eq_true rfl) ?_
  refine zz_if_eq (tgt := 101) C ddM_turnNow_86 rfl (fun hc => ?_) (fun hc => ?_)
  · replace h := iteT h hc
    exact zBM_turnNow_101 hG C N hD hd hK hr h
  · replace h := iteF h hc
    refine zz_aload_n C 0 ddM_turnNow_89 rfl rfl ?_
    refine zz_iload_n C 2 ddM_turnNow_90 rfl rfl ?_
    obtain ⟨h4, h⟩ := gdN h
    obtain ⟨q3, hq3, h⟩ := bindN h
    refine zz_callV0 (As := [.int v2]) C ddM_turnNow_91 wd_1543 my_M_leaveQueue mv_M_leaveQueue ⟨_, rfl, rfl⟩ (xM_leaveQueue hG (d - 1) (by omega) hq3) (by omega) h4 rfl rfl (Nat.le_of_ble_eq_true rfl) ?_
    refine zz_aload_n C 0 ddM_turnNow_94 rfl rfl ?_
    refine zz_iload_n C 2 ddM_turnNow_95 rfl rfl ?_
    refine zz_iconst (v := 0) C ddM_turnNow_96 (by decide) ?_
    refine zz_iconst (v := 3) C ddM_turnNow_97 (by decide) ?_
    obtain ⟨h6, h⟩ := gdN h
    obtain ⟨q5, hq5, h⟩ := bindN h
    refine zz_callV0 (As := [.int v2, .int 0, .int 3]) C ddM_turnNow_98 wd_1511 my_M_set mv_M_set ⟨_, rfl, rfl⟩ (xM_set hG (d - 1) (by omega) hq5) (by omega) h6 rfl rfl (Nat.le_of_ble_eq_true rfl) ?_
    exact zBM_turnNow_101 hG C N hD hd hK hr h
set_option maxHeartbeats 2000000 in
theorem zBM_turnNow_45 {G : GXM} {X : CxM} (hG : GokM G) (C : CoM G X cM_turnNow "HomeFreedModel") (N : mLM X = 3) {d : Nat} (hD : dpM X = d) (hd : 6 ≤ d) {v0 : Nat} {v1 : Int32} {K : Nat → Int32 → Int32 → Mem → Option ((Mem))} {q : (Mem)} (hK : ∀ (v2 : Int32) (M : Mem), K v0 v1 v2 M = some q → ZM G X 45 [(0, .ref v0), (1, .int v1), (2, .int v2)] [] M 0 0) (hr : ∀ r : Mem, q =  r → EnM G X none none r 0 0) {v2 : Int32} {M : Mem} (h : BM_turnNow_45 K v0 v1 v2 M = some q) : ZM G X 45 [(0, .ref v0), (1, .int v1), (2, .int v2)] [] M 0 0 := by
  unfold BM_turnNow_45 at h
  refine zz_iload_n C 2 ddM_turnNow_45 rfl rfl ?_
  refine zz_aload_n C 0 ddM_turnNow_46 rfl rfl ?_
  obtain ⟨h1, h⟩ := gdN h
  obtain ⟨h2, h⟩ := gdN h
  refine zz_getr C ddM_turnNow_47 fl_M_19 rfl h1 (of_decide_eq_true h2) ?_
  refine zz_iconst (v := 1) C ddM_turnNow_50 (by decide) ?_
  obtain ⟨h3, h⟩ := gdN h
  refine zz_iaload C ddM_turnNow_51 h3 ?_
  refine zz_icmp_ge (tgt := 107) C ddM_turnNow_52 rfl (fun hc => ?_) (fun hc => ?_)
  · replace h := iteT h hc
    exact zz_vret C (hr _ (Option.some.inj h).symm) ddM_turnNow_107
  · replace h := iteF h hc
    refine zz_aload_n C 0 ddM_turnNow_55 rfl rfl ?_
    refine zz_iload_n C 2 ddM_turnNow_56 rfl rfl ?_
    refine zz_iload_n C 1 ddM_turnNow_57 rfl rfl ?_
    obtain ⟨q4, hq4, h⟩ := bindN h
    refine zz_callV0 (As := [.int v2, .int v1]) C ddM_turnNow_58 wd_1417 my_M_isOf mv_M_isOf ⟨_, rfl, rfl⟩ (xM_isOf hG (d - 1) (by omega) hq4) (by omega) h1 rfl rfl (Nat.le_of_ble_eq_true rfl) ?_
    refine zz_if_eq (tgt := 80) C ddM_turnNow_61 rfl (fun hc => ?_) (fun hc => ?_)
    · replace h := iteT h hc
      exact zBM_turnNow_80 hG C N hD hd hK hr h
    · replace h := iteF h hc
      refine zz_aload_n C 0 ddM_turnNow_64 rfl rfl ?_
      refine zz_iload_n C 2 ddM_turnNow_65 rfl rfl ?_
      obtain ⟨h6, h⟩ := gdN h
      obtain ⟨q5, hq5, h⟩ := bindN h
      refine zz_callV0 (As := [.int v2]) C ddM_turnNow_66 wd_1386 my_M_usedOf mv_M_usedOf ⟨_, rfl, rfl⟩ (xM_usedOf hG (d - 1) (by omega) hq5) (by omega) h6 rfl rfl (Nat.le_of_ble_eq_true rfl) ?_
      refine zz_if_ne (tgt := 80) C ddM_turnNow_69 rfl (fun hc => ?_) (fun hc => ?_)
      · replace h := iteF h hc
        exact zBM_turnNow_80 hG C N hD hd hK hr h
      · replace h := iteT h hc
        refine zz_aload_n C 0 ddM_turnNow_72 rfl rfl ?_
        refine zz_iload_n C 2 ddM_turnNow_73 rfl rfl ?_
        obtain ⟨h8, h⟩ := gdN h
        obtain ⟨q7, hq7, h⟩ := bindN h
        refine zz_callV0 (As := [.int v2]) C ddM_turnNow_74 wd_1539 my_M_makeEmpty mv_M_makeEmpty ⟨_, rfl, rfl⟩ (xM_makeEmpty hG (d - 1) (by omega) hq7) (by omega) h8 rfl rfl (Nat.le_of_ble_eq_true rfl) ?_
        refine zz_goto (tgt := 101) C ddM_turnNow_77 rfl ?_
        exact zBM_turnNow_101 hG C N hD hd hK hr h
set_option maxHeartbeats 2000000 in
theorem zLM_turnNow_45 {G : GXM} {X : CxM} (hG : GokM G) (C : CoM G X cM_turnNow "HomeFreedModel") (N : mLM X = 3) {d : Nat} (hD : dpM X = d) (hd : 6 ≤ d) {v0 : Nat} {v1 : Int32} {q : (Mem)} : ∀ (f : Nat) (v2 : Int32) (M : Mem), LM_turnNow_45 f v0 v1 v2 M = some q → (hr : ∀ r : Mem, q =  r → EnM G X none none r 0 0) → ZM G X 45 [(0, .ref v0), (1, .int v1), (2, .int v2)] [] M 0 0 := by
  intro f
  induction f with
  | zero => intro v2 M h; cases h
  | succ f ih =>
    intro v2 M h hr
    exact zBM_turnNow_45 hG C N hD hd (K := LM_turnNow_45 f) (q := q) (fun v2 M h => ih v2 M h hr) hr h
set_option maxHeartbeats 2000000 in
theorem xM_turnNow {G : GXM} {l : Launch} (hG : GokM G) (d : Nat) (hd : 6 ≤ d) {v0 : Nat} {v1 : Int32} {M : Mem} {q : Mem} (h : fM_turnNow v0 v1 M = some q) : ExM G l d 0 0 yM_turnNow cM_turnNow 3 none [.ref v0, .int v1] M none q := by
  refine ex_of hG (by decide) (Nat.le_of_ble_eq_true rfl) ?_
  intro X hl C E N hD hn
  show ZM G X 0 [(0, .ref v0), (1, .int v1)] [] M 0 0
  unfold fM_turnNow at h
  refine zz_aload_n C 0 ddM_turnNow_0 rfl rfl ?_
  obtain ⟨h1, h⟩ := gdN h
  obtain ⟨h2, h⟩ := gdN h
  refine zz_getr C ddM_turnNow_1 fl_M_31 rfl h1 (of_decide_eq_true h2) ?_
  refine zz_sipush (v := 3704) C ddM_turnNow_4 (by decide) ?_
  refine zz_iload_n C 1 ddM_turnNow_7 rfl rfl ?_
  refine zz_iadd C ddM_turnNow_8 ?_
  refine zz_iconst (v := 1) C ddM_turnNow_9 (by decide) ?_
  refine zz_aload_n C 0 ddM_turnNow_10 rfl rfl ?_
  refine zz_getr C ddM_turnNow_11 fl_M_31 rfl h1 (of_decide_eq_true h2) ?_
  refine zz_sipush (v := 3704) C ddM_turnNow_14 (by decide) ?_
  refine zz_iload_n C 1 ddM_turnNow_17 rfl rfl ?_
  refine zz_iadd C ddM_turnNow_18 ?_
  obtain ⟨h3, h⟩ := gdN h
  refine zz_iaload C ddM_turnNow_19 h3 ?_
  refine zz_isub C ddM_turnNow_20 ?_
  obtain ⟨h4, h⟩ := gdN h
  refine zz_iastore C ddM_turnNow_21 h4 ?_
  refine zz_aload_n C 0 ddM_turnNow_22 rfl rfl ?_
  refine zz_getr C ddM_turnNow_23 fl_M_31 rfl h1 (of_decide_eq_true h2) ?_
  refine zz_sipush (v := 3704) C ddM_turnNow_26 (by decide) ?_
  refine zz_iload_n C 1 ddM_turnNow_29 rfl rfl ?_
  refine zz_iadd C ddM_turnNow_30 ?_
  refine zz_iaload C ddM_turnNow_31 h3 ?_
  refine zz_iconst (v := 1) C ddM_turnNow_32 (by decide) ?_
  refine zz_icmp_ne (tgt := 37) C ddM_turnNow_33 rfl (fun hc => ?_) (fun hc => ?_)
  · replace h := iteF h hc
    refine zz_aload_n C 0 ddM_turnNow_37 rfl rfl ?_
    refine zz_iload_n C 1 ddM_turnNow_38 rfl rfl ?_
    obtain ⟨q5, hq5, h⟩ := bindN h
    refine zz_callV0 (As := [.int v1]) C ddM_turnNow_39 wd_1531 my_M_sendNow mv_M_sendNow ⟨_, rfl, rfl⟩ (xM_sendNow hG (d - 1) (by omega) hq5) (by omega) h1 rfl rfl (Nat.le_of_ble_eq_true rfl) ?_
    refine zz_pop C ddM_turnNow_42 rfl ?_
    refine zz_iconst (v := 0) C ddM_turnNow_43 (by decide) ?_
    refine zz_istore_n (L1 := [(2, .int 0), (0, .ref v0), (1, .int v1)]) C ddM_turnNow_44 rfl N (by decide) rfl ?_
    refine zz_loc (L1 := [(0, .ref v0), (1, .int v1), (2, .int 0)]) [1, 2, 0] rfl ?_
    obtain ⟨q6, hq6, h⟩ := bindN h
    refine zLM_turnNow_45 hG C N hD hd 1000000 _ _ hq6 ?_
    · intro r7 eq6; subst eq6
      obtain rfl := Option.some.inj h
      exact E
  · replace h := iteT h hc
    obtain rfl := Option.some.inj h
    exact zz_vret C E ddM_turnNow_36
theorem ddM_turn_0 : decode cM_turn 0 = .ok (.aload_n 0, 1) := by decide +kernel
theorem ddM_turn_1 : decode cM_turn 1 = .ok (.aload_n 0, 1) := by decide +kernel
theorem ddM_turn_2 : decode cM_turn 2 = .ok (.iload_n 1, 1) := by decide +kernel
theorem ddM_turn_3 : decode cM_turn 3 = .ok (.invokevirtual 163, 3) := by decide +kernel
theorem ddM_turn_6 : decode cM_turn 6 = .ok (.ifCond .ne 7, 3) := by decide +kernel
theorem ddM_turn_9 : decode cM_turn 9 = .ok (.iconst 0, 1) := by decide +kernel
theorem ddM_turn_10 : decode cM_turn 10 = .ok (.goto 4, 3) := by decide +kernel
theorem ddM_turn_13 : decode cM_turn 13 = .ok (.iconst (-1), 1) := by decide +kernel
theorem ddM_turn_14 : decode cM_turn 14 = .ok (.invokevirtual 315, 3) := by decide +kernel
theorem ddM_turn_17 : decode cM_turn 17 = .ok (.ifCond .eq 5, 3) := by decide +kernel
theorem ddM_turn_20 : decode cM_turn 20 = .ok (.iconst (-1), 1) := by decide +kernel
theorem ddM_turn_21 : decode cM_turn 21 = .ok (.ireturn, 1) := by decide +kernel
theorem ddM_turn_22 : decode cM_turn 22 = .ok (.aload_n 0, 1) := by decide +kernel
theorem ddM_turn_23 : decode cM_turn 23 = .ok (.invokevirtual 318, 3) := by decide +kernel
theorem ddM_turn_26 : decode cM_turn 26 = .ok (.aload_n 0, 1) := by decide +kernel
theorem ddM_turn_27 : decode cM_turn 27 = .ok (.iload_n 1, 1) := by decide +kernel
theorem ddM_turn_28 : decode cM_turn 28 = .ok (.invokevirtual 285, 3) := by decide +kernel
theorem ddM_turn_31 : decode cM_turn 31 = .ok (.aload_n 0, 1) := by decide +kernel
theorem ddM_turn_32 : decode cM_turn 32 = .ok (.getfield 31, 3) := by decide +kernel
theorem ddM_turn_35 : decode cM_turn 35 = .ok (.sipush 3704, 3) := by decide +kernel
theorem ddM_turn_38 : decode cM_turn 38 = .ok (.iload_n 1, 1) := by decide +kernel
theorem ddM_turn_39 : decode cM_turn 39 = .ok (.iadd, 1) := by decide +kernel
theorem ddM_turn_40 : decode cM_turn 40 = .ok (.iaload, 1) := by decide +kernel
theorem ddM_turn_41 : decode cM_turn 41 = .ok (.ireturn, 1) := by decide +kernel
set_option maxHeartbeats 2000000 in
theorem zBM_turn_14 {G : GXM} {X : CxM} (hG : GokM G) (C : CoM G X cM_turn "HomeFreedModel") (N : mLM X = 2) {d : Nat} (hD : dpM X = d) (hd : 7 ≤ d)  {q : Int32 × Mem} (E : EnM G X (some .int) (some (.int q.1)) q.2 0 0) {v0 : Nat} {v1 : Int32} {w0 : Nat} {w1 : Int32} {M : Mem} (h : BM_turn_14 v0 v1 w0 w1 M = some q) : ZM G X 14 [(0, .ref v0), (1, .int v1)] [.int w1, .ref w0] M 0 0 := by
  unfold BM_turn_14 at h
  obtain ⟨h2, h⟩ := gdN h
  obtain ⟨q1, hq1, h⟩ := bindN h
  refine zz_callV0 (As := [.int w1]) C ddM_turn_14 wd_1475 my_M_isRefused mv_M_isRefused ⟨_, rfl, rfl⟩ (xM_isRefused hG (d - 1) (by omega) hq1) (by omega) h2 rfl rfl (Nat.le_of_ble_eq_true rfl) ?_
  refine zz_if_eq (tgt := 22) C ddM_turn_17 rfl (fun hc => ?_) (fun hc => ?_)
  · replace h := iteT h hc
    refine zz_aload_n C 0 ddM_turn_22 rfl rfl ?_
    obtain ⟨h4, h⟩ := gdN h
    obtain ⟨q3, hq3, h⟩ := bindN h
    refine zz_callV0 (As := []) C ddM_turn_23 wd_1479 my_M_keep mv_M_keep ⟨_, rfl, rfl⟩ (xM_keep hG (d - 1) (by omega) hq3) (by omega) h4 rfl rfl (Nat.le_of_ble_eq_true rfl) ?_
    refine zz_aload_n C 0 ddM_turn_26 rfl rfl ?_
    refine zz_iload_n C 1 ddM_turn_27 rfl rfl ?_
    obtain ⟨h6, h⟩ := gdN h
    obtain ⟨q5, hq5, h⟩ := bindN h
    refine zz_callV0 (As := [.int v1]) C ddM_turn_28 wd_1579 my_M_turnNow mv_M_turnNow ⟨_, rfl, rfl⟩ (xM_turnNow hG (d - 1) (by omega) hq5) (by omega) h6 rfl rfl (Nat.le_of_ble_eq_true rfl) ?_
    refine zz_aload_n C 0 ddM_turn_31 rfl rfl ?_
    obtain ⟨h7, h⟩ := gdN h
    obtain ⟨h8, h⟩ := gdN h
    refine zz_getr C ddM_turn_32 fl_M_31 rfl h7 (of_decide_eq_true h8) ?_
    refine zz_sipush (v := 3704) C ddM_turn_35 (by decide) ?_
    refine zz_iload_n C 1 ddM_turn_38 rfl rfl ?_
    refine zz_iadd C ddM_turn_39 ?_
    obtain ⟨h9, h⟩ := gdN h
    refine zz_iaload C ddM_turn_40 h9 ?_
    obtain rfl := Option.some.inj h
    exact zz_iret C E ddM_turn_41
  · replace h := iteF h hc
    refine zz_iconst (v := (-1)) C ddM_turn_20 (by decide) ?_
    obtain rfl := Option.some.inj h
    exact zz_iret C E ddM_turn_21
set_option maxHeartbeats 2000000 in
theorem xM_turn {G : GXM} {l : Launch} (hG : GokM G) (d : Nat) (hd : 7 ≤ d) {v0 : Nat} {v1 : Int32} {M : Mem} {q : Int32 × Mem} (h : fM_turn v0 v1 M = some q) : ExM G l d 0 0 yM_turn cM_turn 2 (some .int) [.ref v0, .int v1] M (some (.int q.1)) q.2 := by
  refine ex_of hG (by decide) (Nat.le_of_ble_eq_true rfl) ?_
  intro X hl C E N hD hn
  show ZM G X 0 [(0, .ref v0), (1, .int v1)] [] M 0 0
  unfold fM_turn at h
  refine zz_aload_n C 0 ddM_turn_0 rfl rfl ?_
  refine zz_aload_n C 0 ddM_turn_1 rfl rfl ?_
  refine zz_iload_n C 1 ddM_turn_2 rfl rfl ?_
  obtain ⟨h2, h⟩ := gdN h
  obtain ⟨q1, hq1, h⟩ := bindN h
  refine zz_callV0 (As := [.int v1]) C ddM_turn_3 wd_1409 my_M_isThread mv_M_isThread ⟨_, rfl, rfl⟩ (xM_isThread hG (d - 1) (by omega) hq1) (by omega) h2 rfl rfl (Nat.le_of_ble_eq_true rfl) ?_
  refine zz_if_ne (tgt := 13) C ddM_turn_6 rfl (fun hc => ?_) (fun hc => ?_)
  · replace h := iteF h hc
    refine zz_iconst (v := (-1)) C ddM_turn_13 (by decide) ?_
    exact zBM_turn_14 hG C N hD hd E h
  · replace h := iteT h hc
    refine zz_iconst (v := 0) C ddM_turn_9 (by decide) ?_
    refine zz_goto (tgt := 14) C ddM_turn_10 rfl ?_
    exact zBM_turn_14 hG C N hD hd E h
theorem ddM_isScript_0 : decode cM_isScript 0 = .ok (.aload_n 0, 1) := by decide +kernel
theorem ddM_isScript_1 : decode cM_isScript 1 = .ok (.invokevirtual 160, 3) := by decide +kernel
theorem ddM_isScript_4 : decode cM_isScript 4 = .ok (.ifCond .eq 21, 3) := by decide +kernel
theorem ddM_isScript_7 : decode cM_isScript 7 = .ok (.iload_n 1, 1) := by decide +kernel
theorem ddM_isScript_8 : decode cM_isScript 8 = .ok (.iconst 0, 1) := by decide +kernel
theorem ddM_isScript_9 : decode cM_isScript 9 = .ok (.aload_n 0, 1) := by decide +kernel
theorem ddM_isScript_10 : decode cM_isScript 10 = .ok (.getfield 157, 3) := by decide +kernel
theorem ddM_isScript_13 : decode cM_isScript 13 = .ok (.iconst 1, 1) := by decide +kernel
theorem ddM_isScript_14 : decode cM_isScript 14 = .ok (.isub, 1) := by decide +kernel
theorem ddM_isScript_15 : decode cM_isScript 15 = .ok (.invokestatic 75, 3) := by decide +kernel
theorem ddM_isScript_18 : decode cM_isScript 18 = .ok (.ifCond .eq 7, 3) := by decide +kernel
theorem ddM_isScript_21 : decode cM_isScript 21 = .ok (.iconst 1, 1) := by decide +kernel
theorem ddM_isScript_22 : decode cM_isScript 22 = .ok (.goto 4, 3) := by decide +kernel
theorem ddM_isScript_25 : decode cM_isScript 25 = .ok (.iconst 0, 1) := by decide +kernel
theorem ddM_isScript_26 : decode cM_isScript 26 = .ok (.ireturn, 1) := by decide +kernel
set_option maxHeartbeats 2000000 in
theorem zBM_isScript_26 {G : GXM} {X : CxM} (hG : GokM G) (C : CoM G X cM_isScript "HomeFreedModel") (N : mLM X = 2) {d : Nat} (hD : dpM X = d) (hd : 1 ≤ d)  {q : Int32 × Mem} (E : EnM G X (some .boolean) (some (.int q.1)) q.2 0 0) {w0 : Int32} {M : Mem} (h : BM_isScript_26 w0 M = some q) : ZM G X 26 [] [.int w0] M 0 0 := by
  unfold BM_isScript_26 at h
  obtain ⟨h1, h⟩ := gdN h
  obtain rfl := Option.some.inj h
  exact zz_zret C (of_decide_eq_true h1) E ddM_isScript_26
set_option maxHeartbeats 2000000 in
theorem zBM_isScript_25 {G : GXM} {X : CxM} (hG : GokM G) (C : CoM G X cM_isScript "HomeFreedModel") (N : mLM X = 2) {d : Nat} (hD : dpM X = d) (hd : 1 ≤ d)  {q : Int32 × Mem} (E : EnM G X (some .boolean) (some (.int q.1)) q.2 0 0) {M : Mem} (h : BM_isScript_25 M = some q) : ZM G X 25 [] [] M 0 0 := by
  unfold BM_isScript_25 at h
  refine zz_iconst (v := 0) C ddM_isScript_25 (by decide) ?_
  exact zBM_isScript_26 hG C N hD hd E h
set_option maxHeartbeats 2000000 in
theorem xM_isScript {G : GXM} {l : Launch} (hG : GokM G) (d : Nat) (hd : 1 ≤ d) {v0 : Nat} {v1 : Int32} {M : Mem} {q : Int32 × Mem} (h : fM_isScript v0 v1 M = some q) : ExM G l d 0 0 yM_isScript cM_isScript 2 (some .boolean) [.ref v0, .int v1] M (some (.int q.1)) q.2 := by
  refine ex_of hG (by decide) (Nat.le_of_ble_eq_true rfl) ?_
  intro X hl C E N hD hn
  show ZM G X 0 [(0, .ref v0), (1, .int v1)] [] M 0 0
  unfold fM_isScript at h
  refine zz_aload_n C 0 ddM_isScript_0 rfl rfl ?_
  obtain ⟨h2, h⟩ := gdN h
  obtain ⟨q1, hq1, h⟩ := bindN h
  refine zz_callV0 (As := []) C ddM_isScript_1 wd_1362 my_M_isArena mv_M_isArena ⟨_, rfl, rfl⟩ (xM_isArena hG (d - 1) (by omega) hq1) (by omega) h2 rfl rfl (Nat.le_of_ble_eq_true rfl) ?_
  refine zz_if_eq (tgt := 25) C ddM_isScript_4 rfl (fun hc => ?_) (fun hc => ?_)
  · replace h := iteT h hc
    refine zz_loc (L1 := []) [] rfl ?_
    exact zBM_isScript_25 hG C N hD hd E h
  · replace h := iteF h hc
    refine zz_iload_n C 1 ddM_isScript_7 rfl rfl ?_
    refine zz_iconst (v := 0) C ddM_isScript_8 (by decide) ?_
    refine zz_aload_n C 0 ddM_isScript_9 rfl rfl ?_
    obtain ⟨h3, h⟩ := gdN h
    refine zz_geti C ddM_isScript_10 fl_M_157 rfl h3 ?_
    refine zz_iconst (v := 1) C ddM_isScript_13 (by decide) ?_
    refine zz_isub C ddM_isScript_14 ?_
    obtain ⟨q4, hq4, h⟩ := bindN h
    refine zz_callS0 (As := [.int v1, .int 0, .int ((giM q1.2 v0 13) - 1)]) C ddM_isScript_15 wd_1289 my_M_in mv_M_in (xM_in hG (d - 1) (by omega) hq4) (by omega) rfl rfl (Nat.le_of_ble_eq_true rfl) ?_
    refine zz_if_eq (tgt := 25) C ddM_isScript_18 rfl (fun hc => ?_) (fun hc => ?_)
    · replace h := iteT h hc
      refine zz_loc (L1 := []) [] rfl ?_
      exact zBM_isScript_25 hG C N hD hd E h
    · replace h := iteF h hc
      refine zz_iconst (v := 1) C ddM_isScript_21 (by decide) ?_
      refine zz_goto (tgt := 26) C ddM_isScript_22 rfl ?_
      refine zz_loc (L1 := []) [] rfl ?_
      exact zBM_isScript_26 hG C N hD hd E h
theorem ddM_stepOf_0 : decode cM_stepOf 0 = .ok (.aload_n 0, 1) := by decide +kernel
theorem ddM_stepOf_1 : decode cM_stepOf 1 = .ok (.getfield 25, 3) := by decide +kernel
theorem ddM_stepOf_4 : decode cM_stepOf 4 = .ok (.iconst 3, 1) := by decide +kernel
theorem ddM_stepOf_5 : decode cM_stepOf 5 = .ok (.bipush 24, 2) := by decide +kernel
theorem ddM_stepOf_7 : decode cM_stepOf 7 = .ok (.iload_n 1, 1) := by decide +kernel
theorem ddM_stepOf_8 : decode cM_stepOf 8 = .ok (.imul, 1) := by decide +kernel
theorem ddM_stepOf_9 : decode cM_stepOf 9 = .ok (.iload_n 2, 1) := by decide +kernel
theorem ddM_stepOf_10 : decode cM_stepOf 10 = .ok (.iadd, 1) := by decide +kernel
theorem ddM_stepOf_11 : decode cM_stepOf 11 = .ok (.imul, 1) := by decide +kernel
theorem ddM_stepOf_12 : decode cM_stepOf 12 = .ok (.iload_n 3, 1) := by decide +kernel
theorem ddM_stepOf_13 : decode cM_stepOf 13 = .ok (.iadd, 1) := by decide +kernel
theorem ddM_stepOf_14 : decode cM_stepOf 14 = .ok (.iaload, 1) := by decide +kernel
theorem ddM_stepOf_15 : decode cM_stepOf 15 = .ok (.ireturn, 1) := by decide +kernel
set_option maxHeartbeats 2000000 in
theorem xM_stepOf {G : GXM} {l : Launch} (hG : GokM G) (d : Nat) (hd : 0 ≤ d) {v0 : Nat} {v1 : Int32} {v2 : Int32} {v3 : Int32} {M : Mem} {q : Int32 × Mem} (h : fM_stepOf v0 v1 v2 v3 M = some q) : ExM G l d 0 0 yM_stepOf cM_stepOf 4 (some .int) [.ref v0, .int v1, .int v2, .int v3] M (some (.int q.1)) q.2 := by
  refine ex_of hG (by decide) (Nat.le_of_ble_eq_true rfl) ?_
  intro X hl C E N hD hn
  show ZM G X 0 [(0, .ref v0), (1, .int v1), (2, .int v2), (3, .int v3)] [] M 0 0
  unfold fM_stepOf at h
  refine zz_aload_n C 0 ddM_stepOf_0 rfl rfl ?_
  obtain ⟨h1, h⟩ := gdN h
  obtain ⟨h2, h⟩ := gdN h
  refine zz_getr C ddM_stepOf_1 fl_M_25 rfl h1 (of_decide_eq_true h2) ?_
  refine zz_iconst (v := 3) C ddM_stepOf_4 (by decide) ?_
  refine zz_bipush (v := 24) C ddM_stepOf_5 (by decide) ?_
  refine zz_iload_n C 1 ddM_stepOf_7 rfl rfl ?_
  refine zz_imul C ddM_stepOf_8 ?_
  refine zz_iload_n C 2 ddM_stepOf_9 rfl rfl ?_
  refine zz_iadd C ddM_stepOf_10 ?_
  refine zz_imul C ddM_stepOf_11 ?_
  refine zz_iload_n C 3 ddM_stepOf_12 rfl rfl ?_
  refine zz_iadd C ddM_stepOf_13 ?_
  obtain ⟨h3, h⟩ := gdN h
  refine zz_iaload C ddM_stepOf_14 h3 ?_
  obtain rfl := Option.some.inj h
  exact zz_iret C E ddM_stepOf_15
theorem ddM_canStep_0 : decode cM_canStep 0 = .ok (.aload_n 0, 1) := by decide +kernel
theorem ddM_canStep_1 : decode cM_canStep 1 = .ok (.iload_n 1, 1) := by decide +kernel
theorem ddM_canStep_2 : decode cM_canStep 2 = .ok (.iload_n 2, 1) := by decide +kernel
theorem ddM_canStep_3 : decode cM_canStep 3 = .ok (.iconst 1, 1) := by decide +kernel
theorem ddM_canStep_4 : decode cM_canStep 4 = .ok (.invokevirtual 256, 3) := by decide +kernel
theorem ddM_canStep_7 : decode cM_canStep 7 = .ok (.istore 4, 2) := by decide +kernel
theorem ddM_canStep_9 : decode cM_canStep 9 = .ok (.aload_n 0, 1) := by decide +kernel
theorem ddM_canStep_10 : decode cM_canStep 10 = .ok (.iload_n 1, 1) := by decide +kernel
theorem ddM_canStep_11 : decode cM_canStep 11 = .ok (.iload_n 2, 1) := by decide +kernel
theorem ddM_canStep_12 : decode cM_canStep 12 = .ok (.iconst 2, 1) := by decide +kernel
theorem ddM_canStep_13 : decode cM_canStep 13 = .ok (.invokevirtual 256, 3) := by decide +kernel
theorem ddM_canStep_16 : decode cM_canStep 16 = .ok (.istore 5, 2) := by decide +kernel
theorem ddM_canStep_18 : decode cM_canStep 18 = .ok (.aload_n 0, 1) := by decide +kernel
theorem ddM_canStep_19 : decode cM_canStep 19 = .ok (.iload_n 1, 1) := by decide +kernel
theorem ddM_canStep_20 : decode cM_canStep 20 = .ok (.iload_n 2, 1) := by decide +kernel
theorem ddM_canStep_21 : decode cM_canStep 21 = .ok (.iconst 0, 1) := by decide +kernel
theorem ddM_canStep_22 : decode cM_canStep 22 = .ok (.invokevirtual 256, 3) := by decide +kernel
theorem ddM_canStep_25 : decode cM_canStep 25 = .ok (.tableswitch 130 0 4 #[35, 75, 116, 123, 123], 35) := by decide +kernel
theorem ddM_canStep_60 : decode cM_canStep 60 = .ok (.aload_n 0, 1) := by decide +kernel
theorem ddM_canStep_61 : decode cM_canStep 61 = .ok (.iload 4, 2) := by decide +kernel
theorem ddM_canStep_63 : decode cM_canStep 63 = .ok (.invokevirtual 260, 3) := by decide +kernel
theorem ddM_canStep_66 : decode cM_canStep 66 = .ok (.ifCond .eq 32, 3) := by decide +kernel
theorem ddM_canStep_69 : decode cM_canStep 69 = .ok (.aload_n 0, 1) := by decide +kernel
theorem ddM_canStep_70 : decode cM_canStep 70 = .ok (.iload 5, 2) := by decide +kernel
theorem ddM_canStep_72 : decode cM_canStep 72 = .ok (.invokevirtual 263, 3) := by decide +kernel
theorem ddM_canStep_75 : decode cM_canStep 75 = .ok (.iconst (-1), 1) := by decide +kernel
theorem ddM_canStep_76 : decode cM_canStep 76 = .ok (.if_icmp .eq 22, 3) := by decide +kernel
theorem ddM_canStep_79 : decode cM_canStep 79 = .ok (.aload_n 0, 1) := by decide +kernel
theorem ddM_canStep_80 : decode cM_canStep 80 = .ok (.iload 4, 2) := by decide +kernel
theorem ddM_canStep_82 : decode cM_canStep 82 = .ok (.aload_n 0, 1) := by decide +kernel
theorem ddM_canStep_83 : decode cM_canStep 83 = .ok (.iload 5, 2) := by decide +kernel
theorem ddM_canStep_85 : decode cM_canStep 85 = .ok (.invokevirtual 263, 3) := by decide +kernel
theorem ddM_canStep_88 : decode cM_canStep 88 = .ok (.invokevirtual 229, 3) := by decide +kernel
theorem ddM_canStep_91 : decode cM_canStep 91 = .ok (.ifCond .eq 7, 3) := by decide +kernel
theorem ddM_canStep_94 : decode cM_canStep 94 = .ok (.iconst 1, 1) := by decide +kernel
theorem ddM_canStep_95 : decode cM_canStep 95 = .ok (.goto 4, 3) := by decide +kernel
theorem ddM_canStep_98 : decode cM_canStep 98 = .ok (.iconst 0, 1) := by decide +kernel
theorem ddM_canStep_99 : decode cM_canStep 99 = .ok (.ireturn, 1) := by decide +kernel
theorem ddM_canStep_100 : decode cM_canStep 100 = .ok (.aload_n 0, 1) := by decide +kernel
theorem ddM_canStep_101 : decode cM_canStep 101 = .ok (.iload 4, 2) := by decide +kernel
theorem ddM_canStep_103 : decode cM_canStep 103 = .ok (.invokevirtual 260, 3) := by decide +kernel
theorem ddM_canStep_106 : decode cM_canStep 106 = .ok (.ifCond .eq 33, 3) := by decide +kernel
theorem ddM_canStep_109 : decode cM_canStep 109 = .ok (.iload 5, 2) := by decide +kernel
theorem ddM_canStep_111 : decode cM_canStep 111 = .ok (.aload_n 0, 1) := by decide +kernel
theorem ddM_canStep_112 : decode cM_canStep 112 = .ok (.getfield 50, 3) := by decide +kernel
theorem ddM_canStep_115 : decode cM_canStep 115 = .ok (.iload_n 3, 1) := by decide +kernel
theorem ddM_canStep_116 : decode cM_canStep 116 = .ok (.iaload, 1) := by decide +kernel
theorem ddM_canStep_117 : decode cM_canStep 117 = .ok (.if_icmp .ge 22, 3) := by decide +kernel
theorem ddM_canStep_120 : decode cM_canStep 120 = .ok (.aload_n 0, 1) := by decide +kernel
theorem ddM_canStep_121 : decode cM_canStep 121 = .ok (.getfield 46, 3) := by decide +kernel
theorem ddM_canStep_124 : decode cM_canStep 124 = .ok (.bipush 24, 2) := by decide +kernel
theorem ddM_canStep_126 : decode cM_canStep 126 = .ok (.iload_n 3, 1) := by decide +kernel
theorem ddM_canStep_127 : decode cM_canStep 127 = .ok (.imul, 1) := by decide +kernel
theorem ddM_canStep_128 : decode cM_canStep 128 = .ok (.iload 5, 2) := by decide +kernel
theorem ddM_canStep_130 : decode cM_canStep 130 = .ok (.iadd, 1) := by decide +kernel
theorem ddM_canStep_131 : decode cM_canStep 131 = .ok (.baload, 1) := by decide +kernel
theorem ddM_canStep_132 : decode cM_canStep 132 = .ok (.ifCond .eq 7, 3) := by decide +kernel
theorem ddM_canStep_135 : decode cM_canStep 135 = .ok (.iconst 1, 1) := by decide +kernel
theorem ddM_canStep_136 : decode cM_canStep 136 = .ok (.goto 4, 3) := by decide +kernel
theorem ddM_canStep_139 : decode cM_canStep 139 = .ok (.iconst 0, 1) := by decide +kernel
theorem ddM_canStep_140 : decode cM_canStep 140 = .ok (.ireturn, 1) := by decide +kernel
theorem ddM_canStep_141 : decode cM_canStep 141 = .ok (.aload_n 0, 1) := by decide +kernel
theorem ddM_canStep_142 : decode cM_canStep 142 = .ok (.iload 4, 2) := by decide +kernel
theorem ddM_canStep_144 : decode cM_canStep 144 = .ok (.invokevirtual 163, 3) := by decide +kernel
theorem ddM_canStep_147 : decode cM_canStep 147 = .ok (.ireturn, 1) := by decide +kernel
theorem ddM_canStep_148 : decode cM_canStep 148 = .ok (.aload_n 0, 1) := by decide +kernel
theorem ddM_canStep_149 : decode cM_canStep 149 = .ok (.iload 4, 2) := by decide +kernel
theorem ddM_canStep_151 : decode cM_canStep 151 = .ok (.invokevirtual 260, 3) := by decide +kernel
theorem ddM_canStep_154 : decode cM_canStep 154 = .ok (.ireturn, 1) := by decide +kernel
theorem ddM_canStep_155 : decode cM_canStep 155 = .ok (.iconst 1, 1) := by decide +kernel
theorem ddM_canStep_156 : decode cM_canStep 156 = .ok (.ireturn, 1) := by decide +kernel
set_option maxHeartbeats 2000000 in
theorem zBM_canStep_140 {G : GXM} {X : CxM} (hG : GokM G) (C : CoM G X cM_canStep "HomeFreedModel") (N : mLM X = 6) {d : Nat} (hD : dpM X = d) (hd : 4 ≤ d)  {q : Int32 × Mem} (E : EnM G X (some .boolean) (some (.int q.1)) q.2 0 0) {w0 : Int32} {M : Mem} (h : BM_canStep_140 w0 M = some q) : ZM G X 140 [] [.int w0] M 0 0 := by
  unfold BM_canStep_140 at h
  obtain ⟨h1, h⟩ := gdN h
  obtain rfl := Option.some.inj h
  exact zz_zret C (of_decide_eq_true h1) E ddM_canStep_140
set_option maxHeartbeats 2000000 in
theorem zBM_canStep_139 {G : GXM} {X : CxM} (hG : GokM G) (C : CoM G X cM_canStep "HomeFreedModel") (N : mLM X = 6) {d : Nat} (hD : dpM X = d) (hd : 4 ≤ d)  {q : Int32 × Mem} (E : EnM G X (some .boolean) (some (.int q.1)) q.2 0 0) {M : Mem} (h : BM_canStep_139 M = some q) : ZM G X 139 [] [] M 0 0 := by
  unfold BM_canStep_139 at h
  refine zz_iconst (v := 0) C ddM_canStep_139 (by decide) ?_
  exact zBM_canStep_140 hG C N hD hd E h
set_option maxHeartbeats 2000000 in
theorem zBM_canStep_99 {G : GXM} {X : CxM} (hG : GokM G) (C : CoM G X cM_canStep "HomeFreedModel") (N : mLM X = 6) {d : Nat} (hD : dpM X = d) (hd : 4 ≤ d)  {q : Int32 × Mem} (E : EnM G X (some .boolean) (some (.int q.1)) q.2 0 0) {w0 : Int32} {M : Mem} (h : BM_canStep_99 w0 M = some q) : ZM G X 99 [] [.int w0] M 0 0 := by
  unfold BM_canStep_99 at h
  obtain ⟨h1, h⟩ := gdN h
  obtain rfl := Option.some.inj h
  exact zz_zret C (of_decide_eq_true h1) E ddM_canStep_99
set_option maxHeartbeats 2000000 in
theorem zBM_canStep_98 {G : GXM} {X : CxM} (hG : GokM G) (C : CoM G X cM_canStep "HomeFreedModel") (N : mLM X = 6) {d : Nat} (hD : dpM X = d) (hd : 4 ≤ d)  {q : Int32 × Mem} (E : EnM G X (some .boolean) (some (.int q.1)) q.2 0 0) {M : Mem} (h : BM_canStep_98 M = some q) : ZM G X 98 [] [] M 0 0 := by
  unfold BM_canStep_98 at h
  refine zz_iconst (v := 0) C ddM_canStep_98 (by decide) ?_
  exact zBM_canStep_99 hG C N hD hd E h
set_option maxHeartbeats 2000000 in
theorem xM_canStep {G : GXM} {l : Launch} (hG : GokM G) (d : Nat) (hd : 4 ≤ d) {v0 : Nat} {v1 : Int32} {v2 : Int32} {v3 : Int32} {M : Mem} {q : Int32 × Mem} (h : fM_canStep v0 v1 v2 v3 M = some q) : ExM G l d 0 0 yM_canStep cM_canStep 6 (some .boolean) [.ref v0, .int v1, .int v2, .int v3] M (some (.int q.1)) q.2 := by
  refine ex_of hG (by decide) (Nat.le_of_ble_eq_true rfl) ?_
  intro X hl C E N hD hn
  show ZM G X 0 [(5, .int v5), (4, .int v4), (0, .ref v0), (1, .int v1), (2, .int v2), (3, .int v3)] [] M 0 0
  unfold fM_canStep at h
  refine zz_aload_n C 0 ddM_canStep_0 rfl rfl ?_
  refine zz_iload_n C 1 ddM_canStep_1 rfl rfl ?_
  refine zz_iload_n C 2 ddM_canStep_2 rfl rfl ?_
  refine zz_iconst (v := 1) C ddM_canStep_3 (by decide) ?_
  obtain ⟨h2, h⟩ := gdN h
  obtain ⟨q1, hq1, h⟩ := bindN h
  refine zz_callV0 (As := [.int v1, .int v2, .int 1]) C ddM_canStep_4 wd_1599 my_M_stepOf mv_M_stepOf ⟨_, rfl, rfl⟩ (xM_stepOf hG (d - 1) (by omega) hq1) (by omega) h2 rfl rfl (Nat.le_of_ble_eq_true rfl) ?_
  refine zz_istore (L1 := [(4, .int q1.1), (0, .ref v0), (1, .int v1), (2, .int v2), (3, .int v3)]) C ddM_canStep_7 N (by decide) rfl ?_
  refine zz_aload_n C 1 ddM_canStep_9 rfl rfl ?_
  refine zz_iload_n C 2 ddM_canStep_10 rfl rfl ?_
  refine zz_iload_n C 3 ddM_canStep_11 rfl rfl ?_
  refine zz_iconst (v := 2) C ddM_canStep_12 (by decide) ?_
  obtain ⟨h4, h⟩ := gdN h
  obtain ⟨q3, hq3, h⟩ := bindN h
  refine zz_callV0 (As := [.int v1, .int v2, .int 2]) C ddM_canStep_13 wd_1599 my_M_stepOf mv_M_stepOf ⟨_, rfl, rfl⟩ (xM_stepOf hG (d - 1) (by omega) hq3) (by omega) h4 rfl rfl (Nat.le_of_ble_eq_true rfl) ?_
  refine zz_istore (L1 := [(5, .int q3.1), (4, .int q1.1), (0, .ref v0), (1, .int v1), (2, .int v2), (3, .int v3)]) C ddM_canStep_16 N (by decide) rfl ?_
  refine zz_aload_n C 2 ddM_canStep_18 rfl rfl ?_
  refine zz_iload_n C 3 ddM_canStep_19 rfl rfl ?_
  refine zz_iload_n C 4 ddM_canStep_20 rfl rfl ?_
  refine zz_iconst (v := 0) C ddM_canStep_21 (by decide) ?_
  obtain ⟨h6, h⟩ := gdN h
  obtain ⟨q5, hq5, h⟩ := bindN h
  refine zz_callV0 (As := [.int v1, .int v2, .int 0]) C ddM_canStep_22 wd_1599 my_M_stepOf mv_M_stepOf ⟨_, rfl, rfl⟩ (xM_stepOf hG (d - 1) (by omega) hq5) (by omega) h6 rfl rfl (Nat.le_of_ble_eq_true rfl) ?_
  by_cases hs25_0 : q5.1 = 0
  · replace h := iteT h hs25_0
    rw [hs25_0]
    refine zz_tableIn (tgt := 60) C ddM_canStep_25 (by decide) (by decide) rfl rfl ?_
    refine zz_aload_n C 2 ddM_canStep_60 rfl rfl ?_
    refine zz_iload C 1 ddM_canStep_61 rfl ?_
    obtain ⟨h8, h⟩ := gdN h
    obtain ⟨q7, hq7, h⟩ := bindN h
    refine zz_callV0 (As := [.int q1.1]) C ddM_canStep_63 wd_1463 my_M_doesLive mv_M_doesLive ⟨_, rfl, rfl⟩ (xM_doesLive hG (d - 1) (by omega) hq7) (by omega) h8 rfl rfl (Nat.le_of_ble_eq_true rfl) ?_
    refine zz_if_eq (tgt := 98) C ddM_canStep_66 rfl (fun hc => ?_) (fun hc => ?_)
    · replace h := iteT h hc
      refine zz_loc (L1 := []) [] rfl ?_
      exact zBM_canStep_98 hG C N hD hd E h
    · replace h := iteF h hc
      refine zz_aload_n C 2 ddM_canStep_69 rfl rfl ?_
      refine zz_iload C 0 ddM_canStep_70 rfl ?_
      obtain ⟨h10, h⟩ := gdN h
      obtain ⟨q9, hq9, h⟩ := bindN h
      refine zz_callV0 (As := [.int q3.1]) C ddM_canStep_72 wd_1459 my_M_classFor mv_M_classFor ⟨_, rfl, rfl⟩ (xM_classFor hG (d - 1) (by omega) hq9) (by omega) h10 rfl rfl (Nat.le_of_ble_eq_true rfl) ?_
      refine zz_iconst (v := (-1)) C ddM_canStep_75 (by decide) ?_
      refine zz_icmp_eq (tgt := 98) C ddM_canStep_76 rfl (fun hc => ?_) (fun hc => ?_)
      · replace h := iteT h hc
        refine zz_loc (L1 := []) [] rfl ?_
        exact zBM_canStep_98 hG C N hD hd E h
      · replace h := iteF h hc
        refine zz_aload_n C 2 ddM_canStep_79 rfl rfl ?_
        refine zz_iload C 1 ddM_canStep_80 rfl ?_
        refine zz_aload_n C 2 ddM_canStep_82 rfl rfl ?_
        refine zz_iload C 0 ddM_canStep_83 rfl ?_
        obtain ⟨h12, h⟩ := gdN h
        obtain ⟨q11, hq11, h⟩ := bindN h
        refine zz_callV0 (As := [.int q3.1]) C ddM_canStep_85 wd_1459 my_M_classFor mv_M_classFor ⟨_, rfl, rfl⟩ (xM_classFor hG (d - 1) (by omega) hq11) (by omega) h12 rfl rfl (Nat.le_of_ble_eq_true rfl) ?_
        obtain ⟨h14, h⟩ := gdN h
        obtain ⟨q13, hq13, h⟩ := bindN h
        refine zz_callV0 (As := [.int q1.1, .int q11.1]) C ddM_canStep_88 wd_1467 my_M_canGet mv_M_canGet ⟨_, rfl, rfl⟩ (xM_canGet hG (d - 1) (by omega) hq13) (by omega) h14 rfl rfl (Nat.le_of_ble_eq_true rfl) ?_
        refine zz_if_eq (tgt := 98) C ddM_canStep_91 rfl (fun hc => ?_) (fun hc => ?_)
        · replace h := iteT h hc
          refine zz_loc (L1 := []) [] rfl ?_
          exact zBM_canStep_98 hG C N hD hd E h
        · replace h := iteF h hc
          refine zz_iconst (v := 1) C ddM_canStep_94 (by decide) ?_
          refine zz_goto (tgt := 99) C ddM_canStep_95 rfl ?_
          refine zz_loc (L1 := []) [] rfl ?_
          exact zBM_canStep_99 hG C N hD hd E h
  replace h := iteF h hs25_0
  by_cases hs25_1 : q5.1 = 1
  · replace h := iteT h hs25_1
    rw [hs25_1]
    refine zz_tableIn (tgt := 100) C ddM_canStep_25 (by decide) (by decide) rfl rfl ?_
    refine zz_aload_n C 2 ddM_canStep_100 rfl rfl ?_
    refine zz_iload C 1 ddM_canStep_101 rfl ?_
    obtain ⟨h16, h⟩ := gdN h
    obtain ⟨q15, hq15, h⟩ := bindN h
    refine zz_callV0 (As := [.int q1.1]) C ddM_canStep_103 wd_1463 my_M_doesLive mv_M_doesLive ⟨_, rfl, rfl⟩ (xM_doesLive hG (d - 1) (by omega) hq15) (by omega) h16 rfl rfl (Nat.le_of_ble_eq_true rfl) ?_
    refine zz_if_eq (tgt := 139) C ddM_canStep_106 rfl (fun hc => ?_) (fun hc => ?_)
    · replace h := iteT h hc
      refine zz_loc (L1 := []) [] rfl ?_
      exact zBM_canStep_139 hG C N hD hd E h
    · replace h := iteF h hc
      refine zz_iload C 0 ddM_canStep_109 rfl ?_
      refine zz_aload_n C 2 ddM_canStep_111 rfl rfl ?_
      obtain ⟨h17, h⟩ := gdN h
      obtain ⟨h18, h⟩ := gdN h
      refine zz_getr C ddM_canStep_112 fl_M_50 rfl h17 (of_decide_eq_true h18) ?_
      refine zz_iload_n C 5 ddM_canStep_115 rfl rfl ?_
      obtain ⟨h19, h⟩ := gdN h
      refine zz_iaload C ddM_canStep_116 h19 ?_
      refine zz_icmp_ge (tgt := 139) C ddM_canStep_117 rfl (fun hc => ?_) (fun hc => ?_)
      · replace h := iteT h hc
        refine zz_loc (L1 := []) [] rfl ?_
        exact zBM_canStep_139 hG C N hD hd E h
      · replace h := iteF h hc
        refine zz_aload_n C 2 ddM_canStep_120 rfl rfl ?_
        obtain ⟨h20, h⟩ := gdN h
        refine zz_getr C ddM_canStep_121 fl_M_46 rfl h17 (of_decide_eq_true h20) ?_
        refine zz_bipush (v := 24) C ddM_canStep_124 (by decide) ?_
        refine zz_iload_n C 5 ddM_canStep_126 rfl rfl ?_
        refine zz_imul C ddM_canStep_127 ?_
        refine zz_iload C 0 ddM_canStep_128 rfl ?_
        refine zz_iadd C ddM_canStep_130 ?_
        obtain ⟨h21, h⟩ := gdN h
        refine zz_baload C ddM_canStep_131 h21 ?_
        refine zz_if_eq (tgt := 139) C ddM_canStep_132 rfl (fun hc => ?_) (fun hc => ?_)
        · replace h := iteT h hc
          refine zz_loc (L1 := []) [] rfl ?_
          exact zBM_canStep_139 hG C N hD hd E h
        · replace h := iteF h hc
          refine zz_iconst (v := 1) C ddM_canStep_135 (by decide) ?_
          refine zz_goto (tgt := 140) C ddM_canStep_136 rfl ?_
          refine zz_loc (L1 := []) [] rfl ?_
          exact zBM_canStep_140 hG C N hD hd E h
  replace h := iteF h hs25_1
  by_cases hs25_2 : q5.1 = 2
  · replace h := iteT h hs25_2
    rw [hs25_2]
    refine zz_tableIn (tgt := 141) C ddM_canStep_25 (by decide) (by decide) rfl rfl ?_
    refine zz_aload_n C 2 ddM_canStep_141 rfl rfl ?_
    refine zz_iload C 1 ddM_canStep_142 rfl ?_
    obtain ⟨h23, h⟩ := gdN h
    obtain ⟨q22, hq22, h⟩ := bindN h
    refine zz_callV0 (As := [.int q1.1]) C ddM_canStep_144 wd_1409 my_M_isThread mv_M_isThread ⟨_, rfl, rfl⟩ (xM_isThread hG (d - 1) (by omega) hq22) (by omega) h23 rfl rfl (Nat.le_of_ble_eq_true rfl) ?_
    obtain ⟨h24, h⟩ := gdN h
    obtain rfl := Option.some.inj h
    exact zz_zret C (of_decide_eq_true h24) E ddM_canStep_147
  replace h := iteF h hs25_2
  by_cases hs25_3 : q5.1 = 3
  · replace h := iteT h hs25_3
    rw [hs25_3]
    refine zz_tableIn (tgt := 148) C ddM_canStep_25 (by decide) (by decide) rfl rfl ?_
    refine zz_aload_n C 2 ddM_canStep_148 rfl rfl ?_
    refine zz_iload C 1 ddM_canStep_149 rfl ?_
    obtain ⟨h26, h⟩ := gdN h
    obtain ⟨q25, hq25, h⟩ := bindN h
    refine zz_callV0 (As := [.int q1.1]) C ddM_canStep_151 wd_1463 my_M_doesLive mv_M_doesLive ⟨_, rfl, rfl⟩ (xM_doesLive hG (d - 1) (by omega) hq25) (by omega) h26 rfl rfl (Nat.le_of_ble_eq_true rfl) ?_
    obtain ⟨h27, h⟩ := gdN h
    obtain rfl := Option.some.inj h
    exact zz_zret C (of_decide_eq_true h27) E ddM_canStep_154
  replace h := iteF h hs25_3
  by_cases hs25_4 : q5.1 = 4
  · replace h := iteT h hs25_4
    rw [hs25_4]
    refine zz_tableIn (tgt := 148) C ddM_canStep_25 (by decide) (by decide) rfl rfl ?_
    refine zz_aload_n C 2 ddM_canStep_148 rfl rfl ?_
    refine zz_iload C 1 ddM_canStep_149 rfl ?_
    obtain ⟨h29, h⟩ := gdN h
    obtain ⟨q28, hq28, h⟩ := bindN h
    refine zz_callV0 (As := [.int q1.1]) C ddM_canStep_151 wd_1463 my_M_doesLive mv_M_doesLive ⟨_, rfl, rfl⟩ (xM_doesLive hG (d - 1) (by omega) hq28) (by omega) h29 rfl rfl (Nat.le_of_ble_eq_true rfl) ?_
    obtain ⟨h30, h⟩ := gdN h
    obtain rfl := Option.some.inj h
    exact zz_zret C (of_decide_eq_true h30) E ddM_canStep_154
  replace h := iteF h hs25_4
  have ths25_0 := lv_neT (a := 0) hs25_0 (by decide)
  have ths25_1 := lv_neT (a := 1) hs25_1 (by decide)
  have ths25_2 := lv_neT (a := 2) hs25_2 (by decide)
  have ths25_3 := lv_neT (a := 3) hs25_3 (by decide)
  have ths25_4 := lv_neT (a := 4) hs25_4 (by decide)
  refine zz_tableOut (tgt := 155) C ddM_canStep_25 (by omega) rfl ?_
  refine zz_iconst (v := 1) C ddM_canStep_155 (by decide) ?_
  obtain rfl := Option.some.inj h
  exact zz_zret C (by decide) E ddM_canStep_156
theorem ddM_stepGet_0 : decode cM_stepGet 0 = .ok (.bipush 24, 2) := by decide +kernel
theorem ddM_stepGet_2 : decode cM_stepGet 2 = .ok (.iload_n 3, 1) := by decide +kernel
theorem ddM_stepGet_3 : decode cM_stepGet 3 = .ok (.imul, 1) := by decide +kernel
theorem ddM_stepGet_4 : decode cM_stepGet 4 = .ok (.aload_n 0, 1) := by decide +kernel
theorem ddM_stepGet_5 : decode cM_stepGet 5 = .ok (.getfield 50, 3) := by decide +kernel
theorem ddM_stepGet_8 : decode cM_stepGet 8 = .ok (.iload_n 3, 1) := by decide +kernel
theorem ddM_stepGet_9 : decode cM_stepGet 9 = .ok (.iaload, 1) := by decide +kernel
theorem ddM_stepGet_10 : decode cM_stepGet 10 = .ok (.iadd, 1) := by decide +kernel
theorem ddM_stepGet_11 : decode cM_stepGet 11 = .ok (.istore 5, 2) := by decide +kernel
theorem ddM_stepGet_13 : decode cM_stepGet 13 = .ok (.aload_n 0, 1) := by decide +kernel
theorem ddM_stepGet_14 : decode cM_stepGet 14 = .ok (.getfield 37, 3) := by decide +kernel
theorem ddM_stepGet_17 : decode cM_stepGet 17 = .ok (.iload 5, 2) := by decide +kernel
theorem ddM_stepGet_19 : decode cM_stepGet 19 = .ok (.aload_n 0, 1) := by decide +kernel
theorem ddM_stepGet_20 : decode cM_stepGet 20 = .ok (.iload_n 1, 1) := by decide +kernel
theorem ddM_stepGet_21 : decode cM_stepGet 21 = .ok (.aload_n 0, 1) := by decide +kernel
theorem ddM_stepGet_22 : decode cM_stepGet 22 = .ok (.iload_n 2, 1) := by decide +kernel
theorem ddM_stepGet_23 : decode cM_stepGet 23 = .ok (.invokevirtual 263, 3) := by decide +kernel
theorem ddM_stepGet_26 : decode cM_stepGet 26 = .ok (.invokevirtual 275, 3) := by decide +kernel
theorem ddM_stepGet_29 : decode cM_stepGet 29 = .ok (.iastore, 1) := by decide +kernel
theorem ddM_stepGet_30 : decode cM_stepGet 30 = .ok (.aload_n 0, 1) := by decide +kernel
theorem ddM_stepGet_31 : decode cM_stepGet 31 = .ok (.getfield 40, 3) := by decide +kernel
theorem ddM_stepGet_34 : decode cM_stepGet 34 = .ok (.iload 5, 2) := by decide +kernel
theorem ddM_stepGet_36 : decode cM_stepGet 36 = .ok (.iload_n 1, 1) := by decide +kernel
theorem ddM_stepGet_37 : decode cM_stepGet 37 = .ok (.iastore, 1) := by decide +kernel
theorem ddM_stepGet_38 : decode cM_stepGet 38 = .ok (.aload_n 0, 1) := by decide +kernel
theorem ddM_stepGet_39 : decode cM_stepGet 39 = .ok (.getfield 43, 3) := by decide +kernel
theorem ddM_stepGet_42 : decode cM_stepGet 42 = .ok (.iload 5, 2) := by decide +kernel
theorem ddM_stepGet_44 : decode cM_stepGet 44 = .ok (.aload_n 0, 1) := by decide +kernel
theorem ddM_stepGet_45 : decode cM_stepGet 45 = .ok (.getfield 266, 3) := by decide +kernel
theorem ddM_stepGet_48 : decode cM_stepGet 48 = .ok (.ifCond .le 10, 3) := by decide +kernel
theorem ddM_stepGet_51 : decode cM_stepGet 51 = .ok (.aload_n 0, 1) := by decide +kernel
theorem ddM_stepGet_52 : decode cM_stepGet 52 = .ok (.getfield 266, 3) := by decide +kernel
theorem ddM_stepGet_55 : decode cM_stepGet 55 = .ok (.goto 4, 3) := by decide +kernel
theorem ddM_stepGet_58 : decode cM_stepGet 58 = .ok (.iconst (-1), 1) := by decide +kernel
theorem ddM_stepGet_59 : decode cM_stepGet 59 = .ok (.iastore, 1) := by decide +kernel
theorem ddM_stepGet_60 : decode cM_stepGet 60 = .ok (.aload_n 0, 1) := by decide +kernel
theorem ddM_stepGet_61 : decode cM_stepGet 61 = .ok (.getfield 46, 3) := by decide +kernel
theorem ddM_stepGet_64 : decode cM_stepGet 64 = .ok (.iload 5, 2) := by decide +kernel
theorem ddM_stepGet_66 : decode cM_stepGet 66 = .ok (.iconst 1, 1) := by decide +kernel
theorem ddM_stepGet_67 : decode cM_stepGet 67 = .ok (.bastore, 1) := by decide +kernel
theorem ddM_stepGet_68 : decode cM_stepGet 68 = .ok (.aload_n 0, 1) := by decide +kernel
theorem ddM_stepGet_69 : decode cM_stepGet 69 = .ok (.getfield 50, 3) := by decide +kernel
theorem ddM_stepGet_72 : decode cM_stepGet 72 = .ok (.iload_n 3, 1) := by decide +kernel
theorem ddM_stepGet_73 : decode cM_stepGet 73 = .ok (.dup2, 1) := by decide +kernel
theorem ddM_stepGet_74 : decode cM_stepGet 74 = .ok (.iaload, 1) := by decide +kernel
theorem ddM_stepGet_75 : decode cM_stepGet 75 = .ok (.iconst 1, 1) := by decide +kernel
theorem ddM_stepGet_76 : decode cM_stepGet 76 = .ok (.iadd, 1) := by decide +kernel
theorem ddM_stepGet_77 : decode cM_stepGet 77 = .ok (.iastore, 1) := by decide +kernel
theorem ddM_stepGet_78 : decode cM_stepGet 78 = .ok (.iload 4, 2) := by decide +kernel
theorem ddM_stepGet_80 : decode cM_stepGet 80 = .ok (.ifCond .eq 15, 3) := by decide +kernel
theorem ddM_stepGet_83 : decode cM_stepGet 83 = .ok (.aload_n 0, 1) := by decide +kernel
theorem ddM_stepGet_84 : decode cM_stepGet 84 = .ok (.aload_n 0, 1) := by decide +kernel
theorem ddM_stepGet_85 : decode cM_stepGet 85 = .ok (.getfield 37, 3) := by decide +kernel
theorem ddM_stepGet_88 : decode cM_stepGet 88 = .ok (.iload 5, 2) := by decide +kernel
theorem ddM_stepGet_90 : decode cM_stepGet 90 = .ok (.iaload, 1) := by decide +kernel
theorem ddM_stepGet_91 : decode cM_stepGet 91 = .ok (.iload_n 1, 1) := by decide +kernel
theorem ddM_stepGet_92 : decode cM_stepGet 92 = .ok (.invokevirtual 278, 3) := by decide +kernel
theorem ddM_stepGet_95 : decode cM_stepGet 95 = .ok (.return_, 1) := by decide +kernel
set_option maxHeartbeats 2000000 in
theorem zBM_stepGet_95 {G : GXM} {X : CxM} (hG : GokM G) (C : CoM G X cM_stepGet "HomeFreedModel") (N : mLM X = 6) {d : Nat} (hD : dpM X = d) (hd : 8 ≤ d)  {q : Mem} (E : EnM G X none none q 0 0) {M : Mem} (h : BM_stepGet_95 M = some q) : ZM G X 95 [] [] M 0 0 := by
  unfold BM_stepGet_95 at h
  obtain rfl := Option.some.inj h
  exact zz_vret C E ddM_stepGet_95
set_option maxHeartbeats 2000000 in
theorem zBM_stepGet_59 {G : GXM} {X : CxM} (hG : GokM G) (C : CoM G X cM_stepGet "HomeFreedModel") (N : mLM X = 6) {d : Nat} (hD : dpM X = d) (hd : 8 ≤ d)  {q : Mem} (E : EnM G X none none q 0 0) {v0 : Nat} {v1 : Int32} {v3 : Int32} {v4 : Int32} {v5 : Int32} {w0 : Nat} {w1 : Int32} {w2 : Int32} {M : Mem} (h : BM_stepGet_59 v0 v1 v3 v4 v5 w0 w1 w2 M = some q) : ZM G X 59 [(0, .ref v0), (1, .int v1), (3, .int v3), (4, .int v4), (5, .int v5)] [.int w2, .int w1, .ref w0] M 0 0 := by
  unfold BM_stepGet_59 at h
  obtain ⟨h1, h⟩ := gdN h
  refine zz_iastore C ddM_stepGet_59 h1 ?_
  refine zz_aload_n C 0 ddM_stepGet_60 rfl rfl ?_
  obtain ⟨h2, h⟩ := gdN h
  obtain ⟨h3, h⟩ := gdN h
  refine zz_getr C ddM_stepGet_61 fl_M_46 rfl h2 (of_decide_eq_true h3) ?_
  refine zz_iload C 4 ddM_stepGet_64 rfl ?_
  refine zz_iconst (v := 1) C ddM_stepGet_66 (by decide) ?_
  obtain ⟨h4, h⟩ := gdN h
  refine zz_bastore C ddM_stepGet_67 h4 (by decide) ?_
  refine zz_aload_n C 0 ddM_stepGet_68 rfl rfl ?_
  obtain ⟨h5, h⟩ := gdN h
  refine zz_getr C ddM_stepGet_69 fl_M_50 rfl h2 (of_decide_eq_true h5) ?_
  refine zz_iload_n C 2 ddM_stepGet_72 rfl rfl ?_
  refine zz_dup2 C ddM_stepGet_73 rfl rfl ?_
  obtain ⟨h6, h⟩ := gdN h
  refine zz_iaload C ddM_stepGet_74 h6 ?_
  refine zz_iconst (v := 1) C ddM_stepGet_75 (by decide) ?_
  refine zz_iadd C ddM_stepGet_76 ?_
  obtain ⟨h7, h⟩ := gdN h
  refine zz_iastore C ddM_stepGet_77 h7 ?_
  refine zz_iload C 3 ddM_stepGet_78 rfl ?_
  refine zz_if_eq (tgt := 95) C ddM_stepGet_80 rfl (fun hc => ?_) (fun hc => ?_)
  · replace h := iteT h hc
    refine zz_loc (L1 := []) [] rfl ?_
    exact zBM_stepGet_95 hG C N hD hd E h
  · replace h := iteF h hc
    refine zz_aload_n C 0 ddM_stepGet_83 rfl rfl ?_
    refine zz_aload_n C 0 ddM_stepGet_84 rfl rfl ?_
    obtain ⟨h8, h⟩ := gdN h
    refine zz_getr C ddM_stepGet_85 fl_M_37 rfl h2 (of_decide_eq_true h8) ?_
    refine zz_iload C 4 ddM_stepGet_88 rfl ?_
    obtain ⟨h9, h⟩ := gdN h
    refine zz_iaload C ddM_stepGet_90 h9 ?_
    refine zz_iload_n C 1 ddM_stepGet_91 rfl rfl ?_
    obtain ⟨q10, hq10, h⟩ := bindN h
    refine zz_callV0 (As := [.int (giM (siM (siM (siM M w0 (Int32.toNatClampNeg w1) w2) (grM M v0 21) (Int32.toNatClampNeg v5) 1) (grM M v0 22) (Int32.toNatClampNeg v3) ((giM (siM (siM M w0 (Int32.toNatClampNeg w1) w2) (grM M v0 21) (Int32.toNatClampNeg v5) 1) (grM M v0 22) (Int32.toNatClampNeg v3)) + 1)) (grM M v0 18) (Int32.toNatClampNeg v5)), .int v1]) C ddM_stepGet_92 wd_1555 my_M_note mv_M_note ⟨_, rfl, rfl⟩ (xM_note hG (d - 1) (by omega) hq10) (by omega) h2 rfl rfl (Nat.le_of_ble_eq_true rfl) ?_
    refine zz_loc (L1 := []) [] rfl ?_
    exact zBM_stepGet_95 hG C N hD hd E h
set_option maxHeartbeats 2000000 in
theorem xM_stepGet {G : GXM} {l : Launch} (hG : GokM G) (d : Nat) (hd : 8 ≤ d) {v0 : Nat} {v1 : Int32} {v2 : Int32} {v3 : Int32} {v4 : Int32} {M : Mem} {q : Mem} (h : fM_stepGet v0 v1 v2 v3 v4 M = some q) : ExM G l d 0 0 yM_stepGet cM_stepGet 6 none [.ref v0, .int v1, .int v2, .int v3, .int v4] M none q := by
  refine ex_of hG (by decide) (Nat.le_of_ble_eq_true rfl) ?_
  intro X hl C E N hD hn
  show ZM G X 0 [(5, .int v5), (0, .ref v0), (1, .int v1), (2, .int v2), (3, .int v3), (4, .int v4)] [] M 0 0
  unfold fM_stepGet at h
  refine zz_bipush (v := 24) C ddM_stepGet_0 (by decide) ?_
  refine zz_iload_n C 3 ddM_stepGet_2 rfl rfl ?_
  refine zz_imul C ddM_stepGet_3 ?_
  refine zz_aload_n C 0 ddM_stepGet_4 rfl rfl ?_
  obtain ⟨h1, h⟩ := gdN h
  obtain ⟨h2, h⟩ := gdN h
  refine zz_getr C ddM_stepGet_5 fl_M_50 rfl h1 (of_decide_eq_true h2) ?_
  refine zz_iload_n C 3 ddM_stepGet_8 rfl rfl ?_
  obtain ⟨h3, h⟩ := gdN h
  refine zz_iaload C ddM_stepGet_9 h3 ?_
  refine zz_iadd C ddM_stepGet_10 ?_
  refine zz_istore (L1 := [(5, .int ((24 * v3) + (giM M (grM M v0 22) (Int32.toNatClampNeg v3)))), (0, .ref v0), (1, .int v1), (2, .int v2), (3, .int v3), (4, .int v4)]) C ddM_stepGet_11 N (by decide) rfl ?_
  refine zz_aload_n C 1 ddM_stepGet_13 rfl rfl ?_
  obtain ⟨h4, h⟩ := gdN h
  refine zz_getr C ddM_stepGet_14 fl_M_37 rfl h1 (of_decide_eq_true h4) ?_
  refine zz_iload C 0 ddM_stepGet_17 rfl ?_
  refine zz_aload_n C 1 ddM_stepGet_19 rfl rfl ?_
  refine zz_iload_n C 2 ddM_stepGet_20 rfl rfl ?_
  refine zz_aload_n C 1 ddM_stepGet_21 rfl rfl ?_
  refine zz_iload_n C 3 ddM_stepGet_22 rfl rfl ?_
  obtain ⟨q5, hq5, h⟩ := bindN h
  refine zz_callV0 (As := [.int v2]) C ddM_stepGet_23 wd_1459 my_M_classFor mv_M_classFor ⟨_, rfl, rfl⟩ (xM_classFor hG (d - 1) (by omega) hq5) (by omega) h1 rfl rfl (Nat.le_of_ble_eq_true rfl) ?_
  obtain ⟨h7, h⟩ := gdN h
  obtain ⟨q6, hq6, h⟩ := bindN h
  refine zz_callV0 (As := [.int v1, .int q5.1]) C ddM_stepGet_26 wd_1483 my_M_getNow mv_M_getNow ⟨_, rfl, rfl⟩ (xM_getNow hG (d - 1) (by omega) hq6) (by omega) h7 rfl rfl (Nat.le_of_ble_eq_true rfl) ?_
  obtain ⟨h8, h⟩ := gdN h
  refine zz_iastore C ddM_stepGet_29 h8 ?_
  refine zz_aload_n C 1 ddM_stepGet_30 rfl rfl ?_
  obtain ⟨h9, h⟩ := gdN h
  obtain ⟨h10, h⟩ := gdN h
  refine zz_getr C ddM_stepGet_31 fl_M_40 rfl h9 (of_decide_eq_true h10) ?_
  refine zz_iload C 0 ddM_stepGet_34 rfl ?_
  refine zz_iload_n C 2 ddM_stepGet_36 rfl rfl ?_
  obtain ⟨h11, h⟩ := gdN h
  refine zz_iastore C ddM_stepGet_37 h11 ?_
  refine zz_aload_n C 1 ddM_stepGet_38 rfl rfl ?_
  obtain ⟨h12, h⟩ := gdN h
  refine zz_getr C ddM_stepGet_39 fl_M_43 rfl h9 (of_decide_eq_true h12) ?_
  refine zz_iload C 0 ddM_stepGet_42 rfl ?_
  refine zz_aload_n C 1 ddM_stepGet_44 rfl rfl ?_
  refine zz_geti C ddM_stepGet_45 fl_M_266 rfl h9 ?_
  refine zz_if_le (tgt := 58) C ddM_stepGet_48 rfl (fun hc => ?_) (fun hc => ?_)
  · replace h := iteT h hc
    refine zz_iconst (v := (-1)) C ddM_stepGet_58 (by decide) ?_
    refine zz_loc (L1 := [(0, .ref v0), (1, .int v1), (3, .int v3), (4, .int v4), (5, .int ((24 * v3) + (giM M (grM M v0 22) (Int32.toNatClampNeg v3))))]) [1, 2, 4, 5, 0] rfl ?_
    exact zBM_stepGet_59 hG C N hD hd E h
  · replace h := iteF h hc
    refine zz_aload_n C 1 ddM_stepGet_51 rfl rfl ?_
    refine zz_geti C ddM_stepGet_52 fl_M_266 rfl h9 ?_
    refine zz_goto (tgt := 59) C ddM_stepGet_55 rfl ?_
    refine zz_loc (L1 := [(0, .ref v0), (1, .int v1), (3, .int v3), (4, .int v4), (5, .int ((24 * v3) + (giM M (grM M v0 22) (Int32.toNatClampNeg v3))))]) [1, 2, 4, 5, 0] rfl ?_
    exact zBM_stepGet_59 hG C N hD hd E h
theorem ddM_lowestLiving_0 : decode cM_lowestLiving 0 = .ok (.iconst 0, 1) := by decide +kernel
theorem ddM_lowestLiving_1 : decode cM_lowestLiving 1 = .ok (.istore_n 1, 1) := by decide +kernel
theorem ddM_lowestLiving_2 : decode cM_lowestLiving 2 = .ok (.iload_n 1, 1) := by decide +kernel
theorem ddM_lowestLiving_3 : decode cM_lowestLiving 3 = .ok (.aload_n 0, 1) := by decide +kernel
theorem ddM_lowestLiving_4 : decode cM_lowestLiving 4 = .ok (.getfield 19, 3) := by decide +kernel
theorem ddM_lowestLiving_7 : decode cM_lowestLiving 7 = .ok (.iconst 0, 1) := by decide +kernel
theorem ddM_lowestLiving_8 : decode cM_lowestLiving 8 = .ok (.iaload, 1) := by decide +kernel
theorem ddM_lowestLiving_9 : decode cM_lowestLiving 9 = .ok (.if_icmp .ge 25, 3) := by decide +kernel
theorem ddM_lowestLiving_12 : decode cM_lowestLiving 12 = .ok (.aload_n 0, 1) := by decide +kernel
theorem ddM_lowestLiving_13 : decode cM_lowestLiving 13 = .ok (.getfield 31, 3) := by decide +kernel
theorem ddM_lowestLiving_16 : decode cM_lowestLiving 16 = .ok (.sipush 3704, 3) := by decide +kernel
theorem ddM_lowestLiving_19 : decode cM_lowestLiving 19 = .ok (.iload_n 1, 1) := by decide +kernel
theorem ddM_lowestLiving_20 : decode cM_lowestLiving 20 = .ok (.iadd, 1) := by decide +kernel
theorem ddM_lowestLiving_21 : decode cM_lowestLiving 21 = .ok (.iaload, 1) := by decide +kernel
theorem ddM_lowestLiving_22 : decode cM_lowestLiving 22 = .ok (.iconst 1, 1) := by decide +kernel
theorem ddM_lowestLiving_23 : decode cM_lowestLiving 23 = .ok (.if_icmp .ne 5, 3) := by decide +kernel
theorem ddM_lowestLiving_26 : decode cM_lowestLiving 26 = .ok (.iload_n 1, 1) := by decide +kernel
theorem ddM_lowestLiving_27 : decode cM_lowestLiving 27 = .ok (.ireturn, 1) := by decide +kernel
theorem ddM_lowestLiving_28 : decode cM_lowestLiving 28 = .ok (.iinc 1 1, 3) := by decide +kernel
theorem ddM_lowestLiving_31 : decode cM_lowestLiving 31 = .ok (.goto (-29), 3) := by decide +kernel
theorem ddM_lowestLiving_34 : decode cM_lowestLiving 34 = .ok (.iconst (-1), 1) := by decide +kernel
theorem ddM_lowestLiving_35 : decode cM_lowestLiving 35 = .ok (.ireturn, 1) := by decide +kernel
set_option maxHeartbeats 2000000 in
theorem zBM_lowestLiving_2 {G : GXM} {X : CxM} (hG : GokM G) (C : CoM G X cM_lowestLiving "HomeFreedModel") (N : mLM X = 2) {d : Nat} (hD : dpM X = d) (hd : 0 ≤ d) {v0 : Nat} {K : Nat → Int32 → Mem → Option ((Int32 × Mem))} {q : (Int32 × Mem)} (hK : ∀ (v1 : Int32) (M : Mem), K v0 v1 M = some q → ZM G X 2 [(0, .ref v0), (1, .int v1)] [] M 0 0) (hr : ∀ r : Int32 × Mem, q =  r → EnM G X (some .int) (some (.int r.1)) r.2 0 0) {v1 : Int32} {M : Mem} (h : BM_lowestLiving_2 K v0 v1 M = some q) : ZM G X 2 [(0, .ref v0), (1, .int v1)] [] M 0 0 := by
  unfold BM_lowestLiving_2 at h
  refine zz_iload_n C 1 ddM_lowestLiving_2 rfl rfl ?_
  refine zz_aload_n C 0 ddM_lowestLiving_3 rfl rfl ?_
  obtain ⟨h1, h⟩ := gdN h
  obtain ⟨h2, h⟩ := gdN h
  refine zz_getr C ddM_lowestLiving_4 fl_M_19 rfl h1 (of_decide_eq_true h2) ?_
  refine zz_iconst (v := 0) C ddM_lowestLiving_7 (by decide) ?_
  obtain ⟨h3, h⟩ := gdN h
  refine zz_iaload C ddM_lowestLiving_8 h3 ?_
  refine zz_icmp_ge (tgt := 34) C ddM_lowestLiving_9 rfl (fun hc => ?_) (fun hc => ?_)
  · replace h := iteT h hc
    refine zz_iconst (v := (-1)) C ddM_lowestLiving_34 (by decide) ?_
    exact zz_iret C (hr _ (Option.some.inj h).symm) ddM_lowestLiving_35
  · replace h := iteF h hc
    refine zz_aload_n C 0 ddM_lowestLiving_12 rfl rfl ?_
    obtain ⟨h4, h⟩ := gdN h
    refine zz_getr C ddM_lowestLiving_13 fl_M_31 rfl h1 (of_decide_eq_true h4) ?_
    refine zz_sipush (v := 3704) C ddM_lowestLiving_16 (by decide) ?_
    refine zz_iload_n C 1 ddM_lowestLiving_19 rfl rfl ?_
    refine zz_iadd C ddM_lowestLiving_20 ?_
    obtain ⟨h5, h⟩ := gdN h
    refine zz_iaload C ddM_lowestLiving_21 h5 ?_
    refine zz_iconst (v := 1) C ddM_lowestLiving_22 (by decide) ?_
    refine zz_icmp_ne (tgt := 28) C ddM_lowestLiving_23 rfl (fun hc => ?_) (fun hc => ?_)
    · replace h := iteF h hc
      refine zz_iinc (v := v1 + 1) (L1 := [(1, .int (v1 + 1)), (0, .ref v0)]) C 1 ddM_lowestLiving_28 rfl rfl N (by decide) rfl ?_
      refine zz_goto (tgt := 2) C ddM_lowestLiving_31 rfl ?_
      refine zz_loc (L1 := [(0, .ref v0), (1, .int (v1 + 1))]) [1, 0] rfl ?_
      exact hK _ _ h
    · replace h := iteT h hc
      refine zz_iload_n C 1 ddM_lowestLiving_26 rfl rfl ?_
      exact zz_iret C (hr _ (Option.some.inj h).symm) ddM_lowestLiving_27
set_option maxHeartbeats 2000000 in
theorem zLM_lowestLiving_2 {G : GXM} {X : CxM} (hG : GokM G) (C : CoM G X cM_lowestLiving "HomeFreedModel") (N : mLM X = 2) {d : Nat} (hD : dpM X = d) (hd : 0 ≤ d) {v0 : Nat} {q : (Int32 × Mem)} : ∀ (f : Nat) (v1 : Int32) (M : Mem), LM_lowestLiving_2 f v0 v1 M = some q → (hr : ∀ r : Int32 × Mem, q =  r → EnM G X (some .int) (some (.int r.1)) r.2 0 0) → ZM G X 2 [(0, .ref v0), (1, .int v1)] [] M 0 0 := by
  intro f
  induction f with
  | zero => intro v1 M h; cases h
  | succ f ih =>
    intro v1 M h hr
    exact zBM_lowestLiving_2 hG C N hD hd (K := LM_lowestLiving_2 f) (q := q) (fun v1 M h => ih v1 M h hr) hr h
set_option maxHeartbeats 2000000 in
theorem xM_lowestLiving {G : GXM} {l : Launch} (hG : GokM G) (d : Nat) (hd : 0 ≤ d) {v0 : Nat} {M : Mem} {q : Int32 × Mem} (h : fM_lowestLiving v0 M = some q) : ExM G l d 0 0 yM_lowestLiving cM_lowestLiving 2 (some .int) [.ref v0] M (some (.int q.1)) q.2 := by
  refine ex_of hG (by decide) (Nat.le_of_ble_eq_true rfl) ?_
  intro X hl C E N hD hn
  show ZM G X 0 [(1, .int v1), (0, .ref v0)] [] M 0 0
  unfold fM_lowestLiving at h
  refine zz_iconst (v := 0) C ddM_lowestLiving_0 (by decide) ?_
  refine zz_istore_n (L1 := [(1, .int 0), (0, .ref v0)]) C ddM_lowestLiving_1 rfl N (by decide) rfl ?_
  refine zz_loc (L1 := [(0, .ref v0), (1, .int 0)]) [1, 0] rfl ?_
  obtain ⟨q1, hq1, h⟩ := bindN h
  refine zLM_lowestLiving_2 hG C N hD hd 1000000 _ _ hq1 ?_
  · intro r2 eq1; subst eq1
    obtain rfl := Option.some.inj h
    exact E
theorem ddM_endScope_0 : decode cM_endScope 0 = .ok (.aload_n 0, 1) := by decide +kernel
theorem ddM_endScope_1 : decode cM_endScope 1 = .ok (.getfield 50, 3) := by decide +kernel
theorem ddM_endScope_4 : decode cM_endScope 4 = .ok (.iconst 0, 1) := by decide +kernel
theorem ddM_endScope_5 : decode cM_endScope 5 = .ok (.iaload, 1) := by decide +kernel
theorem ddM_endScope_6 : decode cM_endScope 6 = .ok (.iconst 1, 1) := by decide +kernel
theorem ddM_endScope_7 : decode cM_endScope 7 = .ok (.isub, 1) := by decide +kernel
theorem ddM_endScope_8 : decode cM_endScope 8 = .ok (.istore_n 1, 1) := by decide +kernel
theorem ddM_endScope_9 : decode cM_endScope 9 = .ok (.iload_n 1, 1) := by decide +kernel
theorem ddM_endScope_10 : decode cM_endScope 10 = .ok (.ifCond .lt 89, 3) := by decide +kernel
theorem ddM_endScope_13 : decode cM_endScope 13 = .ok (.aload_n 0, 1) := by decide +kernel
theorem ddM_endScope_14 : decode cM_endScope 14 = .ok (.getfield 43, 3) := by decide +kernel
theorem ddM_endScope_17 : decode cM_endScope 17 = .ok (.iload_n 1, 1) := by decide +kernel
theorem ddM_endScope_18 : decode cM_endScope 18 = .ok (.iaload, 1) := by decide +kernel
theorem ddM_endScope_19 : decode cM_endScope 19 = .ok (.aload_n 0, 1) := by decide +kernel
theorem ddM_endScope_20 : decode cM_endScope 20 = .ok (.getfield 266, 3) := by decide +kernel
theorem ddM_endScope_23 : decode cM_endScope 23 = .ok (.if_icmp .ne 70, 3) := by decide +kernel
theorem ddM_endScope_26 : decode cM_endScope 26 = .ok (.aload_n 0, 1) := by decide +kernel
theorem ddM_endScope_27 : decode cM_endScope 27 = .ok (.aload_n 0, 1) := by decide +kernel
theorem ddM_endScope_28 : decode cM_endScope 28 = .ok (.getfield 40, 3) := by decide +kernel
theorem ddM_endScope_31 : decode cM_endScope 31 = .ok (.iload_n 1, 1) := by decide +kernel
theorem ddM_endScope_32 : decode cM_endScope 32 = .ok (.iaload, 1) := by decide +kernel
theorem ddM_endScope_33 : decode cM_endScope 33 = .ok (.invokevirtual 260, 3) := by decide +kernel
theorem ddM_endScope_36 : decode cM_endScope 36 = .ok (.ifCond .eq 12, 3) := by decide +kernel
theorem ddM_endScope_39 : decode cM_endScope 39 = .ok (.aload_n 0, 1) := by decide +kernel
theorem ddM_endScope_40 : decode cM_endScope 40 = .ok (.getfield 40, 3) := by decide +kernel
theorem ddM_endScope_43 : decode cM_endScope 43 = .ok (.iload_n 1, 1) := by decide +kernel
theorem ddM_endScope_44 : decode cM_endScope 44 = .ok (.iaload, 1) := by decide +kernel
theorem ddM_endScope_45 : decode cM_endScope 45 = .ok (.goto 7, 3) := by decide +kernel
theorem ddM_endScope_48 : decode cM_endScope 48 = .ok (.aload_n 0, 1) := by decide +kernel
theorem ddM_endScope_49 : decode cM_endScope 49 = .ok (.invokevirtual 269, 3) := by decide +kernel
theorem ddM_endScope_52 : decode cM_endScope 52 = .ok (.istore_n 2, 1) := by decide +kernel
theorem ddM_endScope_53 : decode cM_endScope 53 = .ok (.aload_n 0, 1) := by decide +kernel
theorem ddM_endScope_54 : decode cM_endScope 54 = .ok (.getfield 46, 3) := by decide +kernel
theorem ddM_endScope_57 : decode cM_endScope 57 = .ok (.iload_n 1, 1) := by decide +kernel
theorem ddM_endScope_58 : decode cM_endScope 58 = .ok (.baload, 1) := by decide +kernel
theorem ddM_endScope_59 : decode cM_endScope 59 = .ok (.ifCond .eq 27, 3) := by decide +kernel
theorem ddM_endScope_62 : decode cM_endScope 62 = .ok (.iload_n 2, 1) := by decide +kernel
theorem ddM_endScope_63 : decode cM_endScope 63 = .ok (.iconst (-1), 1) := by decide +kernel
theorem ddM_endScope_64 : decode cM_endScope 64 = .ok (.if_icmp .eq 22, 3) := by decide +kernel
theorem ddM_endScope_67 : decode cM_endScope 67 = .ok (.aload_n 0, 1) := by decide +kernel
theorem ddM_endScope_68 : decode cM_endScope 68 = .ok (.iload_n 2, 1) := by decide +kernel
theorem ddM_endScope_69 : decode cM_endScope 69 = .ok (.aload_n 0, 1) := by decide +kernel
theorem ddM_endScope_70 : decode cM_endScope 70 = .ok (.getfield 37, 3) := by decide +kernel
theorem ddM_endScope_73 : decode cM_endScope 73 = .ok (.iload_n 1, 1) := by decide +kernel
theorem ddM_endScope_74 : decode cM_endScope 74 = .ok (.iaload, 1) := by decide +kernel
theorem ddM_endScope_75 : decode cM_endScope 75 = .ok (.invokevirtual 272, 3) := by decide +kernel
theorem ddM_endScope_78 : decode cM_endScope 78 = .ok (.pop, 1) := by decide +kernel
theorem ddM_endScope_79 : decode cM_endScope 79 = .ok (.aload_n 0, 1) := by decide +kernel
theorem ddM_endScope_80 : decode cM_endScope 80 = .ok (.getfield 46, 3) := by decide +kernel
theorem ddM_endScope_83 : decode cM_endScope 83 = .ok (.iload_n 1, 1) := by decide +kernel
theorem ddM_endScope_84 : decode cM_endScope 84 = .ok (.iconst 0, 1) := by decide +kernel
theorem ddM_endScope_85 : decode cM_endScope 85 = .ok (.bastore, 1) := by decide +kernel
theorem ddM_endScope_86 : decode cM_endScope 86 = .ok (.aload_n 0, 1) := by decide +kernel
theorem ddM_endScope_87 : decode cM_endScope 87 = .ok (.getfield 43, 3) := by decide +kernel
theorem ddM_endScope_90 : decode cM_endScope 90 = .ok (.iload_n 1, 1) := by decide +kernel
theorem ddM_endScope_91 : decode cM_endScope 91 = .ok (.iconst (-1), 1) := by decide +kernel
theorem ddM_endScope_92 : decode cM_endScope 92 = .ok (.iastore, 1) := by decide +kernel
theorem ddM_endScope_93 : decode cM_endScope 93 = .ok (.iinc 1 (-1), 3) := by decide +kernel
theorem ddM_endScope_96 : decode cM_endScope 96 = .ok (.goto (-87), 3) := by decide +kernel
theorem ddM_endScope_99 : decode cM_endScope 99 = .ok (.aload_n 0, 1) := by decide +kernel
theorem ddM_endScope_100 : decode cM_endScope 100 = .ok (.dup, 1) := by decide +kernel
theorem ddM_endScope_101 : decode cM_endScope 101 = .ok (.getfield 266, 3) := by decide +kernel
theorem ddM_endScope_104 : decode cM_endScope 104 = .ok (.iconst 1, 1) := by decide +kernel
theorem ddM_endScope_105 : decode cM_endScope 105 = .ok (.isub, 1) := by decide +kernel
theorem ddM_endScope_106 : decode cM_endScope 106 = .ok (.putfield 266, 3) := by decide +kernel
theorem ddM_endScope_109 : decode cM_endScope 109 = .ok (.return_, 1) := by decide +kernel
set_option maxHeartbeats 2000000 in
theorem zBM_endScope_93 {G : GXM} {X : CxM} (hG : GokM G) (C : CoM G X cM_endScope "HomeFreedModel") (N : mLM X = 3) {d : Nat} (hD : dpM X = d) (hd : 6 ≤ d) {v0 : Nat} {K : Nat → Int32 → Mem → Option ((Mem))} {q : (Mem)} (hK : ∀ (v1 : Int32) (M : Mem), K v0 v1 M = some q → ZM G X 9 [(0, .ref v0), (1, .int v1)] [] M 0 0) (hr : ∀ r : Mem, q =  r → EnM G X none none r 0 0) {v1 : Int32} {M : Mem} (h : BM_endScope_93 K v0 v1 M = some q) : ZM G X 93 [(0, .ref v0), (1, .int v1)] [] M 0 0 := by
  unfold BM_endScope_93 at h
  refine zz_iinc (v := v1 + (-1)) (L1 := [(1, .int (v1 + (-1))), (0, .ref v0)]) C 1 ddM_endScope_93 rfl rfl N (by decide) rfl ?_
  refine zz_goto (tgt := 9) C ddM_endScope_96 rfl ?_
  refine zz_loc (L1 := [(0, .ref v0), (1, .int (v1 + (-1)))]) [1, 0] rfl ?_
  exact hK _ _ h
set_option maxHeartbeats 2000000 in
theorem zBM_endScope_86 {G : GXM} {X : CxM} (hG : GokM G) (C : CoM G X cM_endScope "HomeFreedModel") (N : mLM X = 3) {d : Nat} (hD : dpM X = d) (hd : 6 ≤ d) {v0 : Nat} {K : Nat → Int32 → Mem → Option ((Mem))} {q : (Mem)} (hK : ∀ (v1 : Int32) (M : Mem), K v0 v1 M = some q → ZM G X 9 [(0, .ref v0), (1, .int v1)] [] M 0 0) (hr : ∀ r : Mem, q =  r → EnM G X none none r 0 0) {v1 : Int32} {M : Mem} (h : BM_endScope_86 K v0 v1 M = some q) : ZM G X 86 [(0, .ref v0), (1, .int v1)] [] M 0 0 := by
  unfold BM_endScope_86 at h
  refine zz_aload_n C 0 ddM_endScope_86 rfl rfl ?_
  obtain ⟨h1, h⟩ := gdN h
  obtain ⟨h2, h⟩ := gdN h
  refine zz_getr C ddM_endScope_87 fl_M_43 rfl h1 (of_decide_eq_true h2) ?_
  refine zz_iload_n C 1 ddM_endScope_90 rfl rfl ?_
  refine zz_iconst (v := (-1)) C ddM_endScope_91 (by decide) ?_
  obtain ⟨h3, h⟩ := gdN h
  refine zz_iastore C ddM_endScope_92 h3 ?_
  exact zBM_endScope_93 hG C N hD hd hK hr h
set_option maxHeartbeats 2000000 in
theorem zBM_endScope_52 {G : GXM} {X : CxM} (hG : GokM G) (C : CoM G X cM_endScope "HomeFreedModel") (N : mLM X = 3) {d : Nat} (hD : dpM X = d) (hd : 6 ≤ d) {v0 : Nat} {K : Nat → Int32 → Mem → Option ((Mem))} {q : (Mem)} (hK : ∀ (v1 : Int32) (M : Mem), K v0 v1 M = some q → ZM G X 9 [(0, .ref v0), (1, .int v1)] [] M 0 0) (hr : ∀ r : Mem, q =  r → EnM G X none none r 0 0) {v1 : Int32} {w0 : Int32} {M : Mem} (h : BM_endScope_52 K v0 v1 w0 M = some q) : ZM G X 52 [(0, .ref v0), (1, .int v1)] [.int w0] M 0 0 := by
  unfold BM_endScope_52 at h
  refine zz_istore_n (L1 := [(2, .int w0), (0, .ref v0), (1, .int v1)]) C ddM_endScope_52 rfl N (by decide) rfl ?_
  refine zz_aload_n C 1 ddM_endScope_53 rfl rfl ?_
  obtain ⟨h1, h⟩ := gdN h
  obtain ⟨h2, h⟩ := gdN h
  refine zz_getr C ddM_endScope_54 fl_M_46 rfl h1 (of_decide_eq_true h2) ?_
  refine zz_iload_n C 2 ddM_endScope_57 rfl rfl ?_
  obtain ⟨h3, h⟩ := gdN h
  refine zz_baload C ddM_endScope_58 h3 ?_
  refine zz_if_eq (tgt := 86) C ddM_endScope_59 rfl (fun hc => ?_) (fun hc => ?_)
  · replace h := iteT h hc
    refine zz_loc (L1 := [(0, .ref v0), (1, .int v1)]) [1, 2] rfl ?_
    exact zBM_endScope_86 hG C N hD hd hK hr h
  · replace h := iteF h hc
    refine zz_iload_n C 0 ddM_endScope_62 rfl rfl ?_
    refine zz_iconst (v := (-1)) C ddM_endScope_63 (by decide) ?_
    refine zz_icmp_eq (tgt := 86) C ddM_endScope_64 rfl (fun hc => ?_) (fun hc => ?_)
    · replace h := iteT h hc
      refine zz_loc (L1 := [(0, .ref v0), (1, .int v1)]) [1, 2] rfl ?_
      exact zBM_endScope_86 hG C N hD hd hK hr h
    · replace h := iteF h hc
      refine zz_aload_n C 1 ddM_endScope_67 rfl rfl ?_
      refine zz_iload_n C 0 ddM_endScope_68 rfl rfl ?_
      refine zz_aload_n C 1 ddM_endScope_69 rfl rfl ?_
      obtain ⟨h4, h⟩ := gdN h
      refine zz_getr C ddM_endScope_70 fl_M_37 rfl h1 (of_decide_eq_true h4) ?_
      refine zz_iload_n C 2 ddM_endScope_73 rfl rfl ?_
      obtain ⟨h5, h⟩ := gdN h
      refine zz_iaload C ddM_endScope_74 h5 ?_
      obtain ⟨q6, hq6, h⟩ := bindN h
      refine zz_callV0 (As := [.int w0, .int (giM M (grM M v0 18) (Int32.toNatClampNeg v1))]) C ddM_endScope_75 wd_1563 my_M_freeNow mv_M_freeNow ⟨_, rfl, rfl⟩ (xM_freeNow hG (d - 1) (by omega) hq6) (by omega) h1 rfl rfl (Nat.le_of_ble_eq_true rfl) ?_
      refine zz_pop C ddM_endScope_78 rfl ?_
      refine zz_aload_n C 1 ddM_endScope_79 rfl rfl ?_
      obtain ⟨h7, h⟩ := gdN h
      obtain ⟨h8, h⟩ := gdN h
      refine zz_getr C ddM_endScope_80 fl_M_46 rfl h7 (of_decide_eq_true h8) ?_
      refine zz_iload_n C 2 ddM_endScope_83 rfl rfl ?_
      refine zz_iconst (v := 0) C ddM_endScope_84 (by decide) ?_
      obtain ⟨h9, h⟩ := gdN h
      refine zz_bastore C ddM_endScope_85 h9 (by decide) ?_
      refine zz_loc (L1 := [(0, .ref v0), (1, .int v1)]) [1, 2] rfl ?_
      exact zBM_endScope_86 hG C N hD hd hK hr h
set_option maxHeartbeats 2000000 in
theorem zBM_endScope_9 {G : GXM} {X : CxM} (hG : GokM G) (C : CoM G X cM_endScope "HomeFreedModel") (N : mLM X = 3) {d : Nat} (hD : dpM X = d) (hd : 6 ≤ d) {v0 : Nat} {K : Nat → Int32 → Mem → Option ((Mem))} {q : (Mem)} (hK : ∀ (v1 : Int32) (M : Mem), K v0 v1 M = some q → ZM G X 9 [(0, .ref v0), (1, .int v1)] [] M 0 0) (hr : ∀ r : Mem, q =  r → EnM G X none none r 0 0) {v1 : Int32} {M : Mem} (h : BM_endScope_9 K v0 v1 M = some q) : ZM G X 9 [(0, .ref v0), (1, .int v1)] [] M 0 0 := by
  unfold BM_endScope_9 at h
  refine zz_iload_n C 1 ddM_endScope_9 rfl rfl ?_
  refine zz_if_lt (tgt := 99) C ddM_endScope_10 rfl (fun hc => ?_) (fun hc => ?_)
  · replace h := iteT h hc
    refine zz_aload_n C 0 ddM_endScope_99 rfl rfl ?_
    refine zz_dup C ddM_endScope_100 rfl ?_
    obtain ⟨h1, h⟩ := gdN h
    refine zz_geti C ddM_endScope_101 fl_M_266 rfl h1 ?_
    refine zz_iconst (v := 1) C ddM_endScope_104 (by decide) ?_
    refine zz_isub C ddM_endScope_105 ?_
    refine zz_puti C ddM_endScope_106 fl_M_266 rfl rfl rfl h1 ?_
    exact zz_vret C (hr _ (Option.some.inj h).symm) ddM_endScope_109
  · replace h := iteF h hc
    refine zz_aload_n C 0 ddM_endScope_13 rfl rfl ?_
    obtain ⟨h2, h⟩ := gdN h
    obtain ⟨h3, h⟩ := gdN h
    refine zz_getr C ddM_endScope_14 fl_M_43 rfl h2 (of_decide_eq_true h3) ?_
    refine zz_iload_n C 1 ddM_endScope_17 rfl rfl ?_
    obtain ⟨h4, h⟩ := gdN h
    refine zz_iaload C ddM_endScope_18 h4 ?_
    refine zz_aload_n C 0 ddM_endScope_19 rfl rfl ?_
    refine zz_geti C ddM_endScope_20 fl_M_266 rfl h2 ?_
    refine zz_icmp_ne (tgt := 93) C ddM_endScope_23 rfl (fun hc => ?_) (fun hc => ?_)
    · replace h := iteF h hc
      exact zBM_endScope_93 hG C N hD hd hK hr h
    · replace h := iteT h hc
      refine zz_aload_n C 0 ddM_endScope_26 rfl rfl ?_
      refine zz_aload_n C 0 ddM_endScope_27 rfl rfl ?_
      obtain ⟨h5, h⟩ := gdN h
      refine zz_getr C ddM_endScope_28 fl_M_40 rfl h2 (of_decide_eq_true h5) ?_
      refine zz_iload_n C 1 ddM_endScope_31 rfl rfl ?_
      obtain ⟨h6, h⟩ := gdN h
      refine zz_iaload C ddM_endScope_32 h6 ?_
      obtain ⟨q7, hq7, h⟩ := bindN h
      refine zz_callV0 (As := [.int (giM M (grM M v0 19) (Int32.toNatClampNeg v1))]) C ddM_endScope_33 wd_1463 my_M_doesLive mv_M_doesLive ⟨_, rfl, rfl⟩ (xM_doesLive hG (d - 1) (by omega) hq7) (by omega) h2 rfl rfl (Nat.le_of_ble_eq_true rfl) ?_
      refine zz_if_eq (tgt := 48) C ddM_endScope_36 rfl (fun hc => ?_) (fun hc => ?_)
      · replace h := iteT h hc
        refine zz_aload_n C 0 ddM_endScope_48 rfl rfl ?_
        obtain ⟨h9, h⟩ := gdN h
        obtain ⟨q8, hq8, h⟩ := bindN h
        refine zz_callV0 (As := []) C ddM_endScope_49 wd_1615 my_M_lowestLiving mv_M_lowestLiving ⟨_, rfl, rfl⟩ (xM_lowestLiving hG (d - 1) (by omega) hq8) (by omega) h9 rfl rfl (Nat.le_of_ble_eq_true rfl) ?_
        exact zBM_endScope_52 hG C N hD hd hK hr h
      · replace h := iteF h hc
        refine zz_aload_n C 0 ddM_endScope_39 rfl rfl ?_
        obtain ⟨h10, h⟩ := gdN h
        obtain ⟨h11, h⟩ := gdN h
        refine zz_getr C ddM_endScope_40 fl_M_40 rfl h10 (of_decide_eq_true h11) ?_
        refine zz_iload_n C 1 ddM_endScope_43 rfl rfl ?_
        obtain ⟨h12, h⟩ := gdN h
        refine zz_iaload C ddM_endScope_44 h12 ?_
        refine zz_goto (tgt := 52) C ddM_endScope_45 rfl ?_
        exact zBM_endScope_52 hG C N hD hd hK hr h
set_option maxHeartbeats 2000000 in
theorem zLM_endScope_9 {G : GXM} {X : CxM} (hG : GokM G) (C : CoM G X cM_endScope "HomeFreedModel") (N : mLM X = 3) {d : Nat} (hD : dpM X = d) (hd : 6 ≤ d) {v0 : Nat} {q : (Mem)} : ∀ (f : Nat) (v1 : Int32) (M : Mem), LM_endScope_9 f v0 v1 M = some q → (hr : ∀ r : Mem, q =  r → EnM G X none none r 0 0) → ZM G X 9 [(0, .ref v0), (1, .int v1)] [] M 0 0 := by
  intro f
  induction f with
  | zero => intro v1 M h; cases h
  | succ f ih =>
    intro v1 M h hr
    exact zBM_endScope_9 hG C N hD hd (K := LM_endScope_9 f) (q := q) (fun v1 M h => ih v1 M h hr) hr h
set_option maxHeartbeats 2000000 in
theorem xM_endScope {G : GXM} {l : Launch} (hG : GokM G) (d : Nat) (hd : 6 ≤ d) {v0 : Nat} {M : Mem} {q : Mem} (h : fM_endScope v0 M = some q) : ExM G l d 0 0 yM_endScope cM_endScope 3 none [.ref v0] M none q := by
  refine ex_of hG (by decide) (Nat.le_of_ble_eq_true rfl) ?_
  intro X hl C E N hD hn
  show ZM G X 0 [(1, .int v1), (0, .ref v0)] [] M 0 0
  unfold fM_endScope at h
  refine zz_aload_n C 0 ddM_endScope_0 rfl rfl ?_
  obtain ⟨h1, h⟩ := gdN h
  obtain ⟨h2, h⟩ := gdN h
  refine zz_getr C ddM_endScope_1 fl_M_50 rfl h1 (of_decide_eq_true h2) ?_
  refine zz_iconst (v := 0) C ddM_endScope_4 (by decide) ?_
  obtain ⟨h3, h⟩ := gdN h
  refine zz_iaload C ddM_endScope_5 h3 ?_
  refine zz_iconst (v := 1) C ddM_endScope_6 (by decide) ?_
  refine zz_isub C ddM_endScope_7 ?_
  refine zz_istore_n (L1 := [(1, .int ((giM M (grM M v0 22) (Int32.toNatClampNeg 0)) - 1)), (0, .ref v0)]) C ddM_endScope_8 rfl N (by decide) rfl ?_
  refine zz_loc (L1 := [(0, .ref v0), (1, .int ((giM M (grM M v0 22) (Int32.toNatClampNeg 0)) - 1))]) [1, 0] rfl ?_
  obtain ⟨q4, hq4, h⟩ := bindN h
  refine zLM_endScope_9 hG C N hD hd 1000000 _ _ hq4 ?_
  · intro r5 eq4; subst eq4
    obtain rfl := Option.some.inj h
    exact E
theorem ddM_doStep_0 : decode cM_doStep 0 = .ok (.aload_n 0, 1) := by decide +kernel
theorem ddM_doStep_1 : decode cM_doStep 1 = .ok (.iload_n 1, 1) := by decide +kernel
theorem ddM_doStep_2 : decode cM_doStep 2 = .ok (.iload_n 2, 1) := by decide +kernel
theorem ddM_doStep_3 : decode cM_doStep 3 = .ok (.iconst 1, 1) := by decide +kernel
theorem ddM_doStep_4 : decode cM_doStep 4 = .ok (.invokevirtual 256, 3) := by decide +kernel
theorem ddM_doStep_7 : decode cM_doStep 7 = .ok (.istore 5, 2) := by decide +kernel
theorem ddM_doStep_9 : decode cM_doStep 9 = .ok (.aload_n 0, 1) := by decide +kernel
theorem ddM_doStep_10 : decode cM_doStep 10 = .ok (.iload_n 1, 1) := by decide +kernel
theorem ddM_doStep_11 : decode cM_doStep 11 = .ok (.iload_n 2, 1) := by decide +kernel
theorem ddM_doStep_12 : decode cM_doStep 12 = .ok (.iconst 2, 1) := by decide +kernel
theorem ddM_doStep_13 : decode cM_doStep 13 = .ok (.invokevirtual 256, 3) := by decide +kernel
theorem ddM_doStep_16 : decode cM_doStep 16 = .ok (.istore 6, 2) := by decide +kernel
theorem ddM_doStep_18 : decode cM_doStep 18 = .ok (.aload_n 0, 1) := by decide +kernel
theorem ddM_doStep_19 : decode cM_doStep 19 = .ok (.iload_n 1, 1) := by decide +kernel
theorem ddM_doStep_20 : decode cM_doStep 20 = .ok (.iload_n 2, 1) := by decide +kernel
theorem ddM_doStep_21 : decode cM_doStep 21 = .ok (.iconst 0, 1) := by decide +kernel
theorem ddM_doStep_22 : decode cM_doStep 22 = .ok (.invokevirtual 256, 3) := by decide +kernel
theorem ddM_doStep_25 : decode cM_doStep 25 = .ok (.tableswitch 129 0 5 #[39, 53, 88, 97, 106, 116], 39) := by decide +kernel
theorem ddM_doStep_64 : decode cM_doStep 64 = .ok (.aload_n 0, 1) := by decide +kernel
theorem ddM_doStep_65 : decode cM_doStep 65 = .ok (.iload 5, 2) := by decide +kernel
theorem ddM_doStep_67 : decode cM_doStep 67 = .ok (.iload 6, 2) := by decide +kernel
theorem ddM_doStep_69 : decode cM_doStep 69 = .ok (.iload_n 3, 1) := by decide +kernel
theorem ddM_doStep_70 : decode cM_doStep 70 = .ok (.iload 4, 2) := by decide +kernel
theorem ddM_doStep_72 : decode cM_doStep 72 = .ok (.invokevirtual 281, 3) := by decide +kernel
theorem ddM_doStep_75 : decode cM_doStep 75 = .ok (.goto 83, 3) := by decide +kernel
theorem ddM_doStep_78 : decode cM_doStep 78 = .ok (.aload_n 0, 1) := by decide +kernel
theorem ddM_doStep_79 : decode cM_doStep 79 = .ok (.iload 5, 2) := by decide +kernel
theorem ddM_doStep_81 : decode cM_doStep 81 = .ok (.aload_n 0, 1) := by decide +kernel
theorem ddM_doStep_82 : decode cM_doStep 82 = .ok (.getfield 37, 3) := by decide +kernel
theorem ddM_doStep_85 : decode cM_doStep 85 = .ok (.bipush 24, 2) := by decide +kernel
theorem ddM_doStep_87 : decode cM_doStep 87 = .ok (.iload_n 3, 1) := by decide +kernel
theorem ddM_doStep_88 : decode cM_doStep 88 = .ok (.imul, 1) := by decide +kernel
theorem ddM_doStep_89 : decode cM_doStep 89 = .ok (.iload 6, 2) := by decide +kernel
theorem ddM_doStep_91 : decode cM_doStep 91 = .ok (.iadd, 1) := by decide +kernel
theorem ddM_doStep_92 : decode cM_doStep 92 = .ok (.iaload, 1) := by decide +kernel
theorem ddM_doStep_93 : decode cM_doStep 93 = .ok (.invokevirtual 272, 3) := by decide +kernel
theorem ddM_doStep_96 : decode cM_doStep 96 = .ok (.pop, 1) := by decide +kernel
theorem ddM_doStep_97 : decode cM_doStep 97 = .ok (.aload_n 0, 1) := by decide +kernel
theorem ddM_doStep_98 : decode cM_doStep 98 = .ok (.getfield 46, 3) := by decide +kernel
theorem ddM_doStep_101 : decode cM_doStep 101 = .ok (.bipush 24, 2) := by decide +kernel
theorem ddM_doStep_103 : decode cM_doStep 103 = .ok (.iload_n 3, 1) := by decide +kernel
theorem ddM_doStep_104 : decode cM_doStep 104 = .ok (.imul, 1) := by decide +kernel
theorem ddM_doStep_105 : decode cM_doStep 105 = .ok (.iload 6, 2) := by decide +kernel
theorem ddM_doStep_107 : decode cM_doStep 107 = .ok (.iadd, 1) := by decide +kernel
theorem ddM_doStep_108 : decode cM_doStep 108 = .ok (.iconst 0, 1) := by decide +kernel
theorem ddM_doStep_109 : decode cM_doStep 109 = .ok (.bastore, 1) := by decide +kernel
theorem ddM_doStep_110 : decode cM_doStep 110 = .ok (.goto 48, 3) := by decide +kernel
theorem ddM_doStep_113 : decode cM_doStep 113 = .ok (.aload_n 0, 1) := by decide +kernel
theorem ddM_doStep_114 : decode cM_doStep 114 = .ok (.iload 5, 2) := by decide +kernel
theorem ddM_doStep_116 : decode cM_doStep 116 = .ok (.invokevirtual 285, 3) := by decide +kernel
theorem ddM_doStep_119 : decode cM_doStep 119 = .ok (.goto 39, 3) := by decide +kernel
theorem ddM_doStep_122 : decode cM_doStep 122 = .ok (.aload_n 0, 1) := by decide +kernel
theorem ddM_doStep_123 : decode cM_doStep 123 = .ok (.iload 5, 2) := by decide +kernel
theorem ddM_doStep_125 : decode cM_doStep 125 = .ok (.invokevirtual 235, 3) := by decide +kernel
theorem ddM_doStep_128 : decode cM_doStep 128 = .ok (.goto 30, 3) := by decide +kernel
theorem ddM_doStep_131 : decode cM_doStep 131 = .ok (.aload_n 0, 1) := by decide +kernel
theorem ddM_doStep_132 : decode cM_doStep 132 = .ok (.iload 5, 2) := by decide +kernel
theorem ddM_doStep_134 : decode cM_doStep 134 = .ok (.invokevirtual 250, 3) := by decide +kernel
theorem ddM_doStep_137 : decode cM_doStep 137 = .ok (.pop, 1) := by decide +kernel
theorem ddM_doStep_138 : decode cM_doStep 138 = .ok (.goto 20, 3) := by decide +kernel
theorem ddM_doStep_141 : decode cM_doStep 141 = .ok (.aload_n 0, 1) := by decide +kernel
theorem ddM_doStep_142 : decode cM_doStep 142 = .ok (.dup, 1) := by decide +kernel
theorem ddM_doStep_143 : decode cM_doStep 143 = .ok (.getfield 266, 3) := by decide +kernel
theorem ddM_doStep_146 : decode cM_doStep 146 = .ok (.iconst 1, 1) := by decide +kernel
theorem ddM_doStep_147 : decode cM_doStep 147 = .ok (.iadd, 1) := by decide +kernel
theorem ddM_doStep_148 : decode cM_doStep 148 = .ok (.putfield 266, 3) := by decide +kernel
theorem ddM_doStep_151 : decode cM_doStep 151 = .ok (.goto 7, 3) := by decide +kernel
theorem ddM_doStep_154 : decode cM_doStep 154 = .ok (.aload_n 0, 1) := by decide +kernel
theorem ddM_doStep_155 : decode cM_doStep 155 = .ok (.invokevirtual 288, 3) := by decide +kernel
theorem ddM_doStep_158 : decode cM_doStep 158 = .ok (.return_, 1) := by decide +kernel
set_option maxHeartbeats 2000000 in
theorem zBM_doStep_158 {G : GXM} {X : CxM} (hG : GokM G) (C : CoM G X cM_doStep "HomeFreedModel") (N : mLM X = 7) {d : Nat} (hD : dpM X = d) (hd : 9 ≤ d)  {q : Mem} (E : EnM G X none none q 0 0) {M : Mem} (h : BM_doStep_158 M = some q) : ZM G X 158 [] [] M 0 0 := by
  unfold BM_doStep_158 at h
  obtain rfl := Option.some.inj h
  exact zz_vret C E ddM_doStep_158
set_option maxHeartbeats 2000000 in
theorem xM_doStep {G : GXM} {l : Launch} (hG : GokM G) (d : Nat) (hd : 9 ≤ d) {v0 : Nat} {v1 : Int32} {v2 : Int32} {v3 : Int32} {v4 : Int32} {M : Mem} {q : Mem} (h : fM_doStep v0 v1 v2 v3 v4 M = some q) : ExM G l d 0 0 yM_doStep cM_doStep 7 none [.ref v0, .int v1, .int v2, .int v3, .int v4] M none q := by
  refine ex_of hG (by decide) (Nat.le_of_ble_eq_true rfl) ?_
  intro X hl C E N hD hn
  show ZM G X 0 [(6, .int v6), (5, .int v5), (0, .ref v0), (1, .int v1), (2, .int v2), (3, .int v3), (4, .int v4)] [] M 0 0
  unfold fM_doStep at h
  refine zz_aload_n C 0 ddM_doStep_0 rfl rfl ?_
  refine zz_iload_n C 1 ddM_doStep_1 rfl rfl ?_
  refine zz_iload_n C 2 ddM_doStep_2 rfl rfl ?_
  refine zz_iconst (v := 1) C ddM_doStep_3 (by decide) ?_
  obtain ⟨h2, h⟩ := gdN h
  obtain ⟨q1, hq1, h⟩ := bindN h
  refine zz_callV0 (As := [.int v1, .int v2, .int 1]) C ddM_doStep_4 wd_1599 my_M_stepOf mv_M_stepOf ⟨_, rfl, rfl⟩ (xM_stepOf hG (d - 1) (by omega) hq1) (by omega) h2 rfl rfl (Nat.le_of_ble_eq_true rfl) ?_
  refine zz_istore (L1 := [(5, .int q1.1), (0, .ref v0), (1, .int v1), (2, .int v2), (3, .int v3), (4, .int v4)]) C ddM_doStep_7 N (by decide) rfl ?_
  refine zz_aload_n C 1 ddM_doStep_9 rfl rfl ?_
  refine zz_iload_n C 2 ddM_doStep_10 rfl rfl ?_
  refine zz_iload_n C 3 ddM_doStep_11 rfl rfl ?_
  refine zz_iconst (v := 2) C ddM_doStep_12 (by decide) ?_
  obtain ⟨h4, h⟩ := gdN h
  obtain ⟨q3, hq3, h⟩ := bindN h
  refine zz_callV0 (As := [.int v1, .int v2, .int 2]) C ddM_doStep_13 wd_1599 my_M_stepOf mv_M_stepOf ⟨_, rfl, rfl⟩ (xM_stepOf hG (d - 1) (by omega) hq3) (by omega) h4 rfl rfl (Nat.le_of_ble_eq_true rfl) ?_
  refine zz_istore (L1 := [(6, .int q3.1), (5, .int q1.1), (0, .ref v0), (1, .int v1), (2, .int v2), (3, .int v3), (4, .int v4)]) C ddM_doStep_16 N (by decide) rfl ?_
  refine zz_aload_n C 2 ddM_doStep_18 rfl rfl ?_
  refine zz_iload_n C 3 ddM_doStep_19 rfl rfl ?_
  refine zz_iload_n C 4 ddM_doStep_20 rfl rfl ?_
  refine zz_iconst (v := 0) C ddM_doStep_21 (by decide) ?_
  obtain ⟨h6, h⟩ := gdN h
  obtain ⟨q5, hq5, h⟩ := bindN h
  refine zz_callV0 (As := [.int v1, .int v2, .int 0]) C ddM_doStep_22 wd_1599 my_M_stepOf mv_M_stepOf ⟨_, rfl, rfl⟩ (xM_stepOf hG (d - 1) (by omega) hq5) (by omega) h6 rfl rfl (Nat.le_of_ble_eq_true rfl) ?_
  by_cases hs25_0 : q5.1 = 0
  · replace h := iteT h hs25_0
    rw [hs25_0]
    refine zz_tableIn (tgt := 64) C ddM_doStep_25 (by decide) (by decide) rfl rfl ?_
    refine zz_aload_n C 2 ddM_doStep_64 rfl rfl ?_
    refine zz_iload C 1 ddM_doStep_65 rfl ?_
    refine zz_iload C 0 ddM_doStep_67 rfl ?_
    refine zz_iload_n C 5 ddM_doStep_69 rfl rfl ?_
    refine zz_iload C 6 ddM_doStep_70 rfl ?_
    obtain ⟨h8, h⟩ := gdN h
    obtain ⟨q7, hq7, h⟩ := bindN h
    refine zz_callV0 (As := [.int q1.1, .int q3.1, .int v3, .int v4]) C ddM_doStep_72 wd_1607 my_M_stepGet mv_M_stepGet ⟨_, rfl, rfl⟩ (xM_stepGet hG (d - 1) (by omega) hq7) (by omega) h8 rfl rfl (Nat.le_of_ble_eq_true rfl) ?_
    refine zz_goto (tgt := 158) C ddM_doStep_75 rfl ?_
    refine zz_loc (L1 := []) [] rfl ?_
    exact zBM_doStep_158 hG C N hD hd E h
  replace h := iteF h hs25_0
  by_cases hs25_1 : q5.1 = 1
  · replace h := iteT h hs25_1
    rw [hs25_1]
    refine zz_tableIn (tgt := 78) C ddM_doStep_25 (by decide) (by decide) rfl rfl ?_
    refine zz_aload_n C 2 ddM_doStep_78 rfl rfl ?_
    refine zz_iload C 1 ddM_doStep_79 rfl ?_
    refine zz_aload_n C 2 ddM_doStep_81 rfl rfl ?_
    obtain ⟨h9, h⟩ := gdN h
    obtain ⟨h10, h⟩ := gdN h
    refine zz_getr C ddM_doStep_82 fl_M_37 rfl h9 (of_decide_eq_true h10) ?_
    refine zz_bipush (v := 24) C ddM_doStep_85 (by decide) ?_
    refine zz_iload_n C 5 ddM_doStep_87 rfl rfl ?_
    refine zz_imul C ddM_doStep_88 ?_
    refine zz_iload C 0 ddM_doStep_89 rfl ?_
    refine zz_iadd C ddM_doStep_91 ?_
    obtain ⟨h11, h⟩ := gdN h
    refine zz_iaload C ddM_doStep_92 h11 ?_
    obtain ⟨q12, hq12, h⟩ := bindN h
    refine zz_callV0 (As := [.int q1.1, .int (giM q5.2 (grM q5.2 v0 18) (Int32.toNatClampNeg ((24 * v3) + q3.1)))]) C ddM_doStep_93 wd_1563 my_M_freeNow mv_M_freeNow ⟨_, rfl, rfl⟩ (xM_freeNow hG (d - 1) (by omega) hq12) (by omega) h9 rfl rfl (Nat.le_of_ble_eq_true rfl) ?_
    refine zz_pop C ddM_doStep_96 rfl ?_
    refine zz_aload_n C 2 ddM_doStep_97 rfl rfl ?_
    obtain ⟨h13, h⟩ := gdN h
    obtain ⟨h14, h⟩ := gdN h
    refine zz_getr C ddM_doStep_98 fl_M_46 rfl h13 (of_decide_eq_true h14) ?_
    refine zz_bipush (v := 24) C ddM_doStep_101 (by decide) ?_
    refine zz_iload_n C 5 ddM_doStep_103 rfl rfl ?_
    refine zz_imul C ddM_doStep_104 ?_
    refine zz_iload C 0 ddM_doStep_105 rfl ?_
    refine zz_iadd C ddM_doStep_107 ?_
    refine zz_iconst (v := 0) C ddM_doStep_108 (by decide) ?_
    obtain ⟨h15, h⟩ := gdN h
    refine zz_bastore C ddM_doStep_109 h15 (by decide) ?_
    refine zz_goto (tgt := 158) C ddM_doStep_110 rfl ?_
    refine zz_loc (L1 := []) [] rfl ?_
    exact zBM_doStep_158 hG C N hD hd E h
  replace h := iteF h hs25_1
  by_cases hs25_2 : q5.1 = 2
  · replace h := iteT h hs25_2
    rw [hs25_2]
    refine zz_tableIn (tgt := 113) C ddM_doStep_25 (by decide) (by decide) rfl rfl ?_
    refine zz_aload_n C 2 ddM_doStep_113 rfl rfl ?_
    refine zz_iload C 1 ddM_doStep_114 rfl ?_
    obtain ⟨h17, h⟩ := gdN h
    obtain ⟨q16, hq16, h⟩ := bindN h
    refine zz_callV0 (As := [.int q1.1]) C ddM_doStep_116 wd_1579 my_M_turnNow mv_M_turnNow ⟨_, rfl, rfl⟩ (xM_turnNow hG (d - 1) (by omega) hq16) (by omega) h17 rfl rfl (Nat.le_of_ble_eq_true rfl) ?_
    refine zz_goto (tgt := 158) C ddM_doStep_119 rfl ?_
    refine zz_loc (L1 := []) [] rfl ?_
    exact zBM_doStep_158 hG C N hD hd E h
  replace h := iteF h hs25_2
  by_cases hs25_3 : q5.1 = 3
  · replace h := iteT h hs25_3
    rw [hs25_3]
    refine zz_tableIn (tgt := 122) C ddM_doStep_25 (by decide) (by decide) rfl rfl ?_
    refine zz_aload_n C 2 ddM_doStep_122 rfl rfl ?_
    refine zz_iload C 1 ddM_doStep_123 rfl ?_
    obtain ⟨h19, h⟩ := gdN h
    obtain ⟨q18, hq18, h⟩ := bindN h
    refine zz_callV0 (As := [.int q1.1]) C ddM_doStep_125 wd_1527 my_M_tickNow mv_M_tickNow ⟨_, rfl, rfl⟩ (xM_tickNow hG (d - 1) (by omega) hq18) (by omega) h19 rfl rfl (Nat.le_of_ble_eq_true rfl) ?_
    refine zz_goto (tgt := 158) C ddM_doStep_128 rfl ?_
    refine zz_loc (L1 := []) [] rfl ?_
    exact zBM_doStep_158 hG C N hD hd E h
  replace h := iteF h hs25_3
  by_cases hs25_4 : q5.1 = 4
  · replace h := iteT h hs25_4
    rw [hs25_4]
    refine zz_tableIn (tgt := 131) C ddM_doStep_25 (by decide) (by decide) rfl rfl ?_
    refine zz_aload_n C 2 ddM_doStep_131 rfl rfl ?_
    refine zz_iload C 1 ddM_doStep_132 rfl ?_
    obtain ⟨h21, h⟩ := gdN h
    obtain ⟨q20, hq20, h⟩ := bindN h
    refine zz_callV0 (As := [.int q1.1]) C ddM_doStep_134 wd_1531 my_M_sendNow mv_M_sendNow ⟨_, rfl, rfl⟩ (xM_sendNow hG (d - 1) (by omega) hq20) (by omega) h21 rfl rfl (Nat.le_of_ble_eq_true rfl) ?_
    refine zz_pop C ddM_doStep_137 rfl ?_
    refine zz_goto (tgt := 158) C ddM_doStep_138 rfl ?_
    refine zz_loc (L1 := []) [] rfl ?_
    exact zBM_doStep_158 hG C N hD hd E h
  replace h := iteF h hs25_4
  by_cases hs25_5 : q5.1 = 5
  · replace h := iteT h hs25_5
    rw [hs25_5]
    refine zz_tableIn (tgt := 141) C ddM_doStep_25 (by decide) (by decide) rfl rfl ?_
    refine zz_aload_n C 2 ddM_doStep_141 rfl rfl ?_
    refine zz_dup C ddM_doStep_142 rfl ?_
    obtain ⟨h22, h⟩ := gdN h
    refine zz_geti C ddM_doStep_143 fl_M_266 rfl h22 ?_
    refine zz_iconst (v := 1) C ddM_doStep_146 (by decide) ?_
    refine zz_iadd C ddM_doStep_147 ?_
    refine zz_puti C ddM_doStep_148 fl_M_266 rfl rfl rfl h22 ?_
    refine zz_goto (tgt := 158) C ddM_doStep_151 rfl ?_
    refine zz_loc (L1 := []) [] rfl ?_
    exact zBM_doStep_158 hG C N hD hd E h
  replace h := iteF h hs25_5
  have ths25_0 := lv_neT (a := 0) hs25_0 (by decide)
  have ths25_1 := lv_neT (a := 1) hs25_1 (by decide)
  have ths25_2 := lv_neT (a := 2) hs25_2 (by decide)
  have ths25_3 := lv_neT (a := 3) hs25_3 (by decide)
  have ths25_4 := lv_neT (a := 4) hs25_4 (by decide)
  have ths25_5 := lv_neT (a := 5) hs25_5 (by decide)
  refine zz_tableOut (tgt := 154) C ddM_doStep_25 (by omega) rfl ?_
  refine zz_aload_n C 2 ddM_doStep_154 rfl rfl ?_
  obtain ⟨h24, h⟩ := gdN h
  obtain ⟨q23, hq23, h⟩ := bindN h
  refine zz_callV0 (As := []) C ddM_doStep_155 wd_1611 my_M_endScope mv_M_endScope ⟨_, rfl, rfl⟩ (xM_endScope hG (d - 1) (by omega) hq23) (by omega) h24 rfl rfl (Nat.le_of_ble_eq_true rfl) ?_
  refine zz_loc (L1 := []) [] rfl ?_
  exact zBM_doStep_158 hG C N hD hd E h
theorem ddM_runScript_0 : decode cM_runScript 0 = .ok (.aload_n 0, 1) := by decide +kernel
theorem ddM_runScript_1 : decode cM_runScript 1 = .ok (.getfield 50, 3) := by decide +kernel
theorem ddM_runScript_4 : decode cM_runScript 4 = .ok (.iconst 0, 1) := by decide +kernel
theorem ddM_runScript_5 : decode cM_runScript 5 = .ok (.iconst 0, 1) := by decide +kernel
theorem ddM_runScript_6 : decode cM_runScript 6 = .ok (.iastore, 1) := by decide +kernel
theorem ddM_runScript_7 : decode cM_runScript 7 = .ok (.aload_n 0, 1) := by decide +kernel
theorem ddM_runScript_8 : decode cM_runScript 8 = .ok (.iconst 0, 1) := by decide +kernel
theorem ddM_runScript_9 : decode cM_runScript 9 = .ok (.putfield 266, 3) := by decide +kernel
theorem ddM_runScript_12 : decode cM_runScript 12 = .ok (.iconst 0, 1) := by decide +kernel
theorem ddM_runScript_13 : decode cM_runScript 13 = .ok (.istore_n 3, 1) := by decide +kernel
theorem ddM_runScript_14 : decode cM_runScript 14 = .ok (.iload_n 3, 1) := by decide +kernel
theorem ddM_runScript_15 : decode cM_runScript 15 = .ok (.aload_n 0, 1) := by decide +kernel
theorem ddM_runScript_16 : decode cM_runScript 16 = .ok (.getfield 28, 3) := by decide +kernel
theorem ddM_runScript_19 : decode cM_runScript 19 = .ok (.iload_n 1, 1) := by decide +kernel
theorem ddM_runScript_20 : decode cM_runScript 20 = .ok (.iaload, 1) := by decide +kernel
theorem ddM_runScript_21 : decode cM_runScript 21 = .ok (.if_icmp .ge 27, 3) := by decide +kernel
theorem ddM_runScript_24 : decode cM_runScript 24 = .ok (.aload_n 0, 1) := by decide +kernel
theorem ddM_runScript_25 : decode cM_runScript 25 = .ok (.iload_n 1, 1) := by decide +kernel
theorem ddM_runScript_26 : decode cM_runScript 26 = .ok (.iload_n 3, 1) := by decide +kernel
theorem ddM_runScript_27 : decode cM_runScript 27 = .ok (.iconst 0, 1) := by decide +kernel
theorem ddM_runScript_28 : decode cM_runScript 28 = .ok (.invokevirtual 291, 3) := by decide +kernel
theorem ddM_runScript_31 : decode cM_runScript 31 = .ok (.ifCond .eq 17, 3) := by decide +kernel
theorem ddM_runScript_34 : decode cM_runScript 34 = .ok (.aload_n 0, 1) := by decide +kernel
theorem ddM_runScript_35 : decode cM_runScript 35 = .ok (.iload_n 1, 1) := by decide +kernel
theorem ddM_runScript_36 : decode cM_runScript 36 = .ok (.iload_n 3, 1) := by decide +kernel
theorem ddM_runScript_37 : decode cM_runScript 37 = .ok (.iconst 0, 1) := by decide +kernel
theorem ddM_runScript_38 : decode cM_runScript 38 = .ok (.iload_n 2, 1) := by decide +kernel
theorem ddM_runScript_39 : decode cM_runScript 39 = .ok (.invokevirtual 294, 3) := by decide +kernel
theorem ddM_runScript_42 : decode cM_runScript 42 = .ok (.iinc 3 1, 3) := by decide +kernel
theorem ddM_runScript_45 : decode cM_runScript 45 = .ok (.goto (-31), 3) := by decide +kernel
theorem ddM_runScript_48 : decode cM_runScript 48 = .ok (.aload_n 0, 1) := by decide +kernel
theorem ddM_runScript_49 : decode cM_runScript 49 = .ok (.getfield 266, 3) := by decide +kernel
theorem ddM_runScript_52 : decode cM_runScript 52 = .ok (.ifCond .le 10, 3) := by decide +kernel
theorem ddM_runScript_55 : decode cM_runScript 55 = .ok (.aload_n 0, 1) := by decide +kernel
theorem ddM_runScript_56 : decode cM_runScript 56 = .ok (.invokevirtual 288, 3) := by decide +kernel
theorem ddM_runScript_59 : decode cM_runScript 59 = .ok (.goto (-11), 3) := by decide +kernel
theorem ddM_runScript_62 : decode cM_runScript 62 = .ok (.iload_n 3, 1) := by decide +kernel
theorem ddM_runScript_63 : decode cM_runScript 63 = .ok (.ireturn, 1) := by decide +kernel
set_option maxHeartbeats 2000000 in
theorem zBM_runScript_48 {G : GXM} {X : CxM} (hG : GokM G) (C : CoM G X cM_runScript "HomeFreedModel") (N : mLM X = 4) {d : Nat} (hD : dpM X = d) (hd : 10 ≤ d) {v0 : Nat} {v3 : Int32} {K : Nat → Int32 → Mem → Option ((Int32 × Mem))} {q : (Int32 × Mem)} (hK : ∀  (M : Mem), K v0 v3 M = some q → ZM G X 48 [(0, .ref v0), (3, .int v3)] [] M 0 0) (hr : ∀ r : Int32 × Mem, q =  r → EnM G X (some .int) (some (.int r.1)) r.2 0 0) {M : Mem} (h : BM_runScript_48 K v0 v3 M = some q) : ZM G X 48 [(0, .ref v0), (3, .int v3)] [] M 0 0 := by
  unfold BM_runScript_48 at h
  refine zz_aload_n C 0 ddM_runScript_48 rfl rfl ?_
  obtain ⟨h1, h⟩ := gdN h
  refine zz_geti C ddM_runScript_49 fl_M_266 rfl h1 ?_
  refine zz_if_le (tgt := 62) C ddM_runScript_52 rfl (fun hc => ?_) (fun hc => ?_)
  · replace h := iteT h hc
    refine zz_iload_n C 1 ddM_runScript_62 rfl rfl ?_
    exact zz_iret C (hr _ (Option.some.inj h).symm) ddM_runScript_63
  · replace h := iteF h hc
    refine zz_aload_n C 0 ddM_runScript_55 rfl rfl ?_
    obtain ⟨q2, hq2, h⟩ := bindN h
    refine zz_callV0 (As := []) C ddM_runScript_56 wd_1611 my_M_endScope mv_M_endScope ⟨_, rfl, rfl⟩ (xM_endScope hG (d - 1) (by omega) hq2) (by omega) h1 rfl rfl (Nat.le_of_ble_eq_true rfl) ?_
    refine zz_goto (tgt := 48) C ddM_runScript_59 rfl ?_
    exact hK  _ h
set_option maxHeartbeats 2000000 in
theorem zLM_runScript_48 {G : GXM} {X : CxM} (hG : GokM G) (C : CoM G X cM_runScript "HomeFreedModel") (N : mLM X = 4) {d : Nat} (hD : dpM X = d) (hd : 10 ≤ d) {v0 : Nat} {v3 : Int32} {q : (Int32 × Mem)} : ∀ (f : Nat)  (M : Mem), LM_runScript_48 f v0 v3 M = some q → (hr : ∀ r : Int32 × Mem, q =  r → EnM G X (some .int) (some (.int r.1)) r.2 0 0) → ZM G X 48 [(0, .ref v0), (3, .int v3)] [] M 0 0 := by
  intro f
  induction f with
  | zero => intro  M h; cases h
  | succ f ih =>
    intro  M h hr
    exact zBM_runScript_48 hG C N hD hd (K := LM_runScript_48 f) (q := q) (fun  M h => ih  M h hr) hr h
set_option maxHeartbeats 2000000 in
theorem zBM_runScript_14 {G : GXM} {X : CxM} (hG : GokM G) (C : CoM G X cM_runScript "HomeFreedModel") (N : mLM X = 4) {d : Nat} (hD : dpM X = d) (hd : 10 ≤ d) {v0 : Nat} {v1 : Int32} {v2 : Int32} {K : Nat → Int32 → Int32 → Int32 → Mem → Option ((Int32 × Mem))} {q : (Int32 × Mem)} (hK : ∀ (v3 : Int32) (M : Mem), K v0 v1 v2 v3 M = some q → ZM G X 14 [(0, .ref v0), (1, .int v1), (2, .int v2), (3, .int v3)] [] M 0 0) (hx0 : ∀ y : Int32 × Mem, q = y → ZM G X 48 [(0, .ref v0), (3, .int y.1)] [] y.2 0 0) {v3 : Int32} {M : Mem} (h : BM_runScript_14 K v0 v1 v2 v3 M = some q) : ZM G X 14 [(0, .ref v0), (1, .int v1), (2, .int v2), (3, .int v3)] [] M 0 0 := by
  unfold BM_runScript_14 at h
  refine zz_iload_n C 3 ddM_runScript_14 rfl rfl ?_
  refine zz_aload_n C 0 ddM_runScript_15 rfl rfl ?_
  obtain ⟨h1, h⟩ := gdN h
  obtain ⟨h2, h⟩ := gdN h
  refine zz_getr C ddM_runScript_16 fl_M_28 rfl h1 (of_decide_eq_true h2) ?_
  refine zz_iload_n C 1 ddM_runScript_19 rfl rfl ?_
  obtain ⟨h3, h⟩ := gdN h
  refine zz_iaload C ddM_runScript_20 h3 ?_
  refine zz_icmp_ge (tgt := 48) C ddM_runScript_21 rfl (fun hc => ?_) (fun hc => ?_)
  · replace h := iteT h hc
    refine zz_loc (L1 := [(0, .ref v0), (3, .int v3)]) [0, 3] rfl ?_
    exact hx0 _ (Option.some.inj h).symm
  · replace h := iteF h hc
    refine zz_aload_n C 0 ddM_runScript_24 rfl rfl ?_
    refine zz_iload_n C 1 ddM_runScript_25 rfl rfl ?_
    refine zz_iload_n C 3 ddM_runScript_26 rfl rfl ?_
    refine zz_iconst (v := 0) C ddM_runScript_27 (by decide) ?_
    obtain ⟨q4, hq4, h⟩ := bindN h
    refine zz_callV0 (As := [.int v1, .int v3, .int 0]) C ddM_runScript_28 wd_1595 my_M_canStep mv_M_canStep ⟨_, rfl, rfl⟩ (xM_canStep hG (d - 1) (by omega) hq4) (by omega) h1 rfl rfl (Nat.le_of_ble_eq_true rfl) ?_
    refine zz_if_eq (tgt := 48) C ddM_runScript_31 rfl (fun hc => ?_) (fun hc => ?_)
    · replace h := iteT h hc
      refine zz_loc (L1 := [(0, .ref v0), (3, .int v3)]) [0, 3] rfl ?_
      exact hx0 _ (Option.some.inj h).symm
    · replace h := iteF h hc
      refine zz_aload_n C 0 ddM_runScript_34 rfl rfl ?_
      refine zz_iload_n C 1 ddM_runScript_35 rfl rfl ?_
      refine zz_iload_n C 3 ddM_runScript_36 rfl rfl ?_
      refine zz_iconst (v := 0) C ddM_runScript_37 (by decide) ?_
      refine zz_iload_n C 2 ddM_runScript_38 rfl rfl ?_
      obtain ⟨h6, h⟩ := gdN h
      obtain ⟨q5, hq5, h⟩ := bindN h
      refine zz_callV0 (As := [.int v1, .int v3, .int 0, .int v2]) C ddM_runScript_39 wd_1603 my_M_doStep mv_M_doStep ⟨_, rfl, rfl⟩ (xM_doStep hG (d - 1) (by omega) hq5) (by omega) h6 rfl rfl (Nat.le_of_ble_eq_true rfl) ?_
      refine zz_iinc (v := v3 + 1) (L1 := [(3, .int (v3 + 1)), (0, .ref v0), (1, .int v1), (2, .int v2)]) C 3 ddM_runScript_42 rfl rfl N (by decide) rfl ?_
      refine zz_goto (tgt := 14) C ddM_runScript_45 rfl ?_
      refine zz_loc (L1 := [(0, .ref v0), (1, .int v1), (2, .int v2), (3, .int (v3 + 1))]) [1, 2, 3, 0] rfl ?_
      exact hK _ _ h
set_option maxHeartbeats 2000000 in
theorem zLM_runScript_14 {G : GXM} {X : CxM} (hG : GokM G) (C : CoM G X cM_runScript "HomeFreedModel") (N : mLM X = 4) {d : Nat} (hD : dpM X = d) (hd : 10 ≤ d) {v0 : Nat} {v1 : Int32} {v2 : Int32} {q : (Int32 × Mem)} : ∀ (f : Nat) (v3 : Int32) (M : Mem), LM_runScript_14 f v0 v1 v2 v3 M = some q → (hx0 : ∀ y : Int32 × Mem, q = y → ZM G X 48 [(0, .ref v0), (3, .int y.1)] [] y.2 0 0) → ZM G X 14 [(0, .ref v0), (1, .int v1), (2, .int v2), (3, .int v3)] [] M 0 0 := by
  intro f
  induction f with
  | zero => intro v3 M h; cases h
  | succ f ih =>
    intro v3 M h hx0
    exact zBM_runScript_14 hG C N hD hd (K := LM_runScript_14 f) (q := q) (fun v3 M h => ih v3 M h hx0) hx0 h
set_option maxHeartbeats 2000000 in
theorem xM_runScript {G : GXM} {l : Launch} (hG : GokM G) (d : Nat) (hd : 10 ≤ d) {v0 : Nat} {v1 : Int32} {v2 : Int32} {M : Mem} {q : Int32 × Mem} (h : fM_runScript v0 v1 v2 M = some q) : ExM G l d 0 0 yM_runScript cM_runScript 4 (some .int) [.ref v0, .int v1, .int v2] M (some (.int q.1)) q.2 := by
  refine ex_of hG (by decide) (Nat.le_of_ble_eq_true rfl) ?_
  intro X hl C E N hD hn
  show ZM G X 0 [(3, .int v3), (0, .ref v0), (1, .int v1), (2, .int v2)] [] M 0 0
  unfold fM_runScript at h
  refine zz_aload_n C 0 ddM_runScript_0 rfl rfl ?_
  obtain ⟨h1, h⟩ := gdN h
  obtain ⟨h2, h⟩ := gdN h
  refine zz_getr C ddM_runScript_1 fl_M_50 rfl h1 (of_decide_eq_true h2) ?_
  refine zz_iconst (v := 0) C ddM_runScript_4 (by decide) ?_
  refine zz_iconst (v := 0) C ddM_runScript_5 (by decide) ?_
  obtain ⟨h3, h⟩ := gdN h
  refine zz_iastore C ddM_runScript_6 h3 ?_
  refine zz_aload_n C 0 ddM_runScript_7 rfl rfl ?_
  refine zz_iconst (v := 0) C ddM_runScript_8 (by decide) ?_
  refine zz_puti C ddM_runScript_9 fl_M_266 rfl rfl rfl h1 ?_
  refine zz_iconst (v := 0) C ddM_runScript_12 (by decide) ?_
  refine zz_istore_n (L1 := [(3, .int 0), (0, .ref v0), (1, .int v1), (2, .int v2)]) C ddM_runScript_13 rfl N (by decide) rfl ?_
  refine zz_loc (L1 := [(0, .ref v0), (1, .int v1), (2, .int v2), (3, .int 0)]) [1, 2, 3, 0] rfl ?_
  obtain ⟨q4, hq4, h⟩ := bindN h
  refine zLM_runScript_14 hG C N hD hd 1000000 _ _ hq4 ?_
  · intro y5 eq4; subst eq4
    obtain ⟨q6, hq6, h⟩ := bindN h
    refine zLM_runScript_48 hG C N hD hd 1000000  _ hq6 ?_
    · intro r7 eq6; subst eq6
      obtain rfl := Option.some.inj h
      exact E
