theorem ddM_perform_0 : decode cM_perform 0 = .ok (.aload_n 0, 1) := by decide +kernel
theorem ddM_perform_1 : decode cM_perform 1 = .ok (.aload_n 0, 1) := by decide +kernel
theorem ddM_perform_2 : decode cM_perform 2 = .ok (.iload_n 1, 1) := by decide +kernel
theorem ddM_perform_3 : decode cM_perform 3 = .ok (.invokevirtual 321, 3) := by decide +kernel
theorem ddM_perform_6 : decode cM_perform 6 = .ok (.ifCond .ne 7, 3) := by decide +kernel
theorem ddM_perform_9 : decode cM_perform 9 = .ok (.iconst 0, 1) := by decide +kernel
theorem ddM_perform_10 : decode cM_perform 10 = .ok (.goto 4, 3) := by decide +kernel
theorem ddM_perform_13 : decode cM_perform 13 = .ok (.iconst (-1), 1) := by decide +kernel
theorem ddM_perform_14 : decode cM_perform 14 = .ok (.invokevirtual 315, 3) := by decide +kernel
theorem ddM_perform_17 : decode cM_perform 17 = .ok (.ifCond .eq 5, 3) := by decide +kernel
theorem ddM_perform_20 : decode cM_perform 20 = .ok (.iconst (-1), 1) := by decide +kernel
theorem ddM_perform_21 : decode cM_perform 21 = .ok (.ireturn, 1) := by decide +kernel
theorem ddM_perform_22 : decode cM_perform 22 = .ok (.aload_n 0, 1) := by decide +kernel
theorem ddM_perform_23 : decode cM_perform 23 = .ok (.invokevirtual 318, 3) := by decide +kernel
theorem ddM_perform_26 : decode cM_perform 26 = .ok (.aload_n 0, 1) := by decide +kernel
theorem ddM_perform_27 : decode cM_perform 27 = .ok (.iload_n 1, 1) := by decide +kernel
theorem ddM_perform_28 : decode cM_perform 28 = .ok (.iconst 1, 1) := by decide +kernel
theorem ddM_perform_29 : decode cM_perform 29 = .ok (.invokevirtual 324, 3) := by decide +kernel
theorem ddM_perform_32 : decode cM_perform 32 = .ok (.ireturn, 1) := by decide +kernel
set_option maxHeartbeats 2000000 in
theorem zBM_perform_14 {G : GXM} {X : CxM} (hG : GokM G) (C : CoM G X cM_perform "HomeFreedModel") (N : mLM X = 2) {d : Nat} (hD : dpM X = d) (hd : 11 ≤ d)  {q : Int32 × Mem} (E : EnM G X (some .int) (some (.int q.1)) q.2 0 0) {v0 : Nat} {v1 : Int32} {w0 : Nat} {w1 : Int32} {M : Mem} (h : BM_perform_14 v0 v1 w0 w1 M = some q) : ZM G X 14 [(0, .ref v0), (1, .int v1)] [.int w1, .ref w0] M 0 0 := by
  unfold BM_perform_14 at h
  obtain ⟨h2, h⟩ := gdN h
  obtain ⟨q1, hq1, h⟩ := bindN h
  refine zz_callV0 (As := [.int w1]) C ddM_perform_14 wd_1475 my_M_isRefused mv_M_isRefused ⟨_, rfl, rfl⟩ (xM_isRefused hG (d - 1) (by omega) hq1) (by omega) h2 rfl rfl (Nat.le_of_ble_eq_true rfl) ?_
  refine zz_if_eq (tgt := 22) C ddM_perform_17 rfl (fun hc => ?_) (fun hc => ?_)
  · replace h := iteT h hc
    refine zz_aload_n C 0 ddM_perform_22 rfl rfl ?_
    obtain ⟨h4, h⟩ := gdN h
    obtain ⟨q3, hq3, h⟩ := bindN h
    refine zz_callV0 (As := []) C ddM_perform_23 wd_1479 my_M_keep mv_M_keep ⟨_, rfl, rfl⟩ (xM_keep hG (d - 1) (by omega) hq3) (by omega) h4 rfl rfl (Nat.le_of_ble_eq_true rfl) ?_
    refine zz_aload_n C 0 ddM_perform_26 rfl rfl ?_
    refine zz_iload_n C 1 ddM_perform_27 rfl rfl ?_
    refine zz_iconst (v := 1) C ddM_perform_28 (by decide) ?_
    obtain ⟨h6, h⟩ := gdN h
    obtain ⟨q5, hq5, h⟩ := bindN h
    refine zz_callV0 (As := [.int v1, .int 1]) C ddM_perform_29 wd_1591 my_M_runScript mv_M_runScript ⟨_, rfl, rfl⟩ (xM_runScript hG (d - 1) (by omega) hq5) (by omega) h6 rfl rfl (Nat.le_of_ble_eq_true rfl) ?_
    obtain rfl := Option.some.inj h
    exact zz_iret C E ddM_perform_32
  · replace h := iteF h hc
    refine zz_iconst (v := (-1)) C ddM_perform_20 (by decide) ?_
    obtain rfl := Option.some.inj h
    exact zz_iret C E ddM_perform_21
set_option maxHeartbeats 2000000 in
theorem xM_perform {G : GXM} {l : Launch} (hG : GokM G) (d : Nat) (hd : 11 ≤ d) {v0 : Nat} {v1 : Int32} {M : Mem} {q : Int32 × Mem} (h : fM_perform v0 v1 M = some q) : ExM G l d 0 0 yM_perform cM_perform 2 (some .int) [.ref v0, .int v1] M (some (.int q.1)) q.2 := by
  refine ex_of hG (by decide) (Nat.le_of_ble_eq_true rfl) ?_
  intro X hl C E N hD hn
  show ZM G X 0 [(0, .ref v0), (1, .int v1)] [] M 0 0
  unfold fM_perform at h
  refine zz_aload_n C 0 ddM_perform_0 rfl rfl ?_
  refine zz_aload_n C 0 ddM_perform_1 rfl rfl ?_
  refine zz_iload_n C 1 ddM_perform_2 rfl rfl ?_
  obtain ⟨h2, h⟩ := gdN h
  obtain ⟨q1, hq1, h⟩ := bindN h
  refine zz_callV0 (As := [.int v1]) C ddM_perform_3 wd_1587 my_M_isScript mv_M_isScript ⟨_, rfl, rfl⟩ (xM_isScript hG (d - 1) (by omega) hq1) (by omega) h2 rfl rfl (Nat.le_of_ble_eq_true rfl) ?_
  refine zz_if_ne (tgt := 13) C ddM_perform_6 rfl (fun hc => ?_) (fun hc => ?_)
  · replace h := iteF h hc
    refine zz_iconst (v := (-1)) C ddM_perform_13 (by decide) ?_
    exact zBM_perform_14 hG C N hD hd E h
  · replace h := iteT h hc
    refine zz_iconst (v := 0) C ddM_perform_9 (by decide) ?_
    refine zz_goto (tgt := 14) C ddM_perform_10 rfl ?_
    exact zBM_perform_14 hG C N hD hd E h
theorem ddM_draw_0 : decode cM_draw 0 = .ok (.aload_n 0, 1) := by decide +kernel
theorem ddM_draw_1 : decode cM_draw 1 = .ok (.aload_n 0, 1) := by decide +kernel
theorem ddM_draw_2 : decode cM_draw 2 = .ok (.getfield 327, 3) := by decide +kernel
theorem ddM_draw_5 : decode cM_draw 5 = .ok (.ldc2_w 331, 3) := by decide +kernel
theorem ddM_draw_8 : decode cM_draw 8 = .ok (.lmul, 1) := by decide +kernel
theorem ddM_draw_9 : decode cM_draw 9 = .ok (.ldc2_w 333, 3) := by decide +kernel
theorem ddM_draw_12 : decode cM_draw 12 = .ok (.ladd, 1) := by decide +kernel
theorem ddM_draw_13 : decode cM_draw 13 = .ok (.putfield 327, 3) := by decide +kernel
theorem ddM_draw_16 : decode cM_draw 16 = .ok (.aload_n 0, 1) := by decide +kernel
theorem ddM_draw_17 : decode cM_draw 17 = .ok (.getfield 327, 3) := by decide +kernel
theorem ddM_draw_20 : decode cM_draw 20 = .ok (.bipush 33, 2) := by decide +kernel
theorem ddM_draw_22 : decode cM_draw 22 = .ok (.lushr, 1) := by decide +kernel
theorem ddM_draw_23 : decode cM_draw 23 = .ok (.iload_n 1, 1) := by decide +kernel
theorem ddM_draw_24 : decode cM_draw 24 = .ok (.i2l, 1) := by decide +kernel
theorem ddM_draw_25 : decode cM_draw 25 = .ok (.lrem, 1) := by decide +kernel
theorem ddM_draw_26 : decode cM_draw 26 = .ok (.l2i, 1) := by decide +kernel
theorem ddM_draw_27 : decode cM_draw 27 = .ok (.ireturn, 1) := by decide +kernel
set_option maxHeartbeats 2000000 in
theorem xM_draw {G : GXM} {l : Launch} (hG : GokM G) (d : Nat) (hd : 0 ≤ d) {v0 : Nat} {v1 : Int32} {M : Mem} {q : Int32 × Mem} (h : fM_draw v0 v1 M = some q) : ExM G l d 0 0 yM_draw cM_draw 2 (some .int) [.ref v0, .int v1] M (some (.int q.1)) q.2 := by
  refine ex_of hG (by decide) (Nat.le_of_ble_eq_true rfl) ?_
  intro X hl C E N hD hn
  show ZM G X 0 [(0, .ref v0), (1, .int v1)] [] M 0 0
  unfold fM_draw at h
  refine zz_aload_n C 0 ddM_draw_0 rfl rfl ?_
  refine zz_aload_n C 0 ddM_draw_1 rfl rfl ?_
  obtain ⟨h1, h⟩ := gdN h
  refine zz_getl C ddM_draw_2 fl_M_327 rfl h1 ?_
  refine zz_ldc2 C ddM_draw_5 wd_1631 rfl ?_
  refine zz_lmul C ddM_draw_8 ?_
  refine zz_ldc2 C ddM_draw_9 wd_1632 rfl ?_
  refine zz_ladd C ddM_draw_12 ?_
  refine zz_putl C ddM_draw_13 fl_M_327 rfl rfl rfl h1 ?_
  refine zz_aload_n C 0 ddM_draw_16 rfl rfl ?_
  refine zz_getl C ddM_draw_17 fl_M_327 rfl h1 ?_
  refine zz_bipush (v := 33) C ddM_draw_20 (by decide) ?_
  refine zz_lushr C ddM_draw_22 ?_
  refine zz_iload_n C 1 ddM_draw_23 rfl rfl ?_
  refine zz_i2l C ddM_draw_24 ?_
  obtain ⟨h2, h⟩ := gdN h
  refine zz_lrem C ddM_draw_25 (of_decide_eq_true h2) ?_
  refine zz_l2i C ddM_draw_26 ?_
  obtain rfl := Option.some.inj h
  exact zz_iret C E ddM_draw_27
theorem ddM_heldMany_0 : decode cM_heldMany 0 = .ok (.iconst 0, 1) := by decide +kernel
theorem ddM_heldMany_1 : decode cM_heldMany 1 = .ok (.istore_n 1, 1) := by decide +kernel
theorem ddM_heldMany_2 : decode cM_heldMany 2 = .ok (.iconst 0, 1) := by decide +kernel
theorem ddM_heldMany_3 : decode cM_heldMany 3 = .ok (.istore_n 2, 1) := by decide +kernel
theorem ddM_heldMany_4 : decode cM_heldMany 4 = .ok (.iload_n 2, 1) := by decide +kernel
theorem ddM_heldMany_5 : decode cM_heldMany 5 = .ok (.aload_n 0, 1) := by decide +kernel
theorem ddM_heldMany_6 : decode cM_heldMany 6 = .ok (.getfield 19, 3) := by decide +kernel
theorem ddM_heldMany_9 : decode cM_heldMany 9 = .ok (.iconst 1, 1) := by decide +kernel
theorem ddM_heldMany_10 : decode cM_heldMany 10 = .ok (.iaload, 1) := by decide +kernel
theorem ddM_heldMany_11 : decode cM_heldMany 11 = .ok (.if_icmp .ge 38, 3) := by decide +kernel
theorem ddM_heldMany_14 : decode cM_heldMany 14 = .ok (.iconst 0, 1) := by decide +kernel
theorem ddM_heldMany_15 : decode cM_heldMany 15 = .ok (.istore_n 3, 1) := by decide +kernel
theorem ddM_heldMany_16 : decode cM_heldMany 16 = .ok (.iload_n 3, 1) := by decide +kernel
theorem ddM_heldMany_17 : decode cM_heldMany 17 = .ok (.aload_n 0, 1) := by decide +kernel
theorem ddM_heldMany_18 : decode cM_heldMany 18 = .ok (.iload_n 2, 1) := by decide +kernel
theorem ddM_heldMany_19 : decode cM_heldMany 19 = .ok (.invokevirtual 176, 3) := by decide +kernel
theorem ddM_heldMany_22 : decode cM_heldMany 22 = .ok (.if_icmp .ge 21, 3) := by decide +kernel
theorem ddM_heldMany_25 : decode cM_heldMany 25 = .ok (.iload_n 1, 1) := by decide +kernel
theorem ddM_heldMany_26 : decode cM_heldMany 26 = .ok (.aload_n 0, 1) := by decide +kernel
theorem ddM_heldMany_27 : decode cM_heldMany 27 = .ok (.iload_n 2, 1) := by decide +kernel
theorem ddM_heldMany_28 : decode cM_heldMany 28 = .ok (.bipush 126, 2) := by decide +kernel
theorem ddM_heldMany_30 : decode cM_heldMany 30 = .ok (.iload_n 3, 1) := by decide +kernel
theorem ddM_heldMany_31 : decode cM_heldMany 31 = .ok (.iadd, 1) := by decide +kernel
theorem ddM_heldMany_32 : decode cM_heldMany 32 = .ok (.invokevirtual 170, 3) := by decide +kernel
theorem ddM_heldMany_35 : decode cM_heldMany 35 = .ok (.iadd, 1) := by decide +kernel
theorem ddM_heldMany_36 : decode cM_heldMany 36 = .ok (.istore_n 1, 1) := by decide +kernel
theorem ddM_heldMany_37 : decode cM_heldMany 37 = .ok (.iinc 3 1, 3) := by decide +kernel
theorem ddM_heldMany_40 : decode cM_heldMany 40 = .ok (.goto (-24), 3) := by decide +kernel
theorem ddM_heldMany_43 : decode cM_heldMany 43 = .ok (.iinc 2 1, 3) := by decide +kernel
theorem ddM_heldMany_46 : decode cM_heldMany 46 = .ok (.goto (-42), 3) := by decide +kernel
theorem ddM_heldMany_49 : decode cM_heldMany 49 = .ok (.iload_n 1, 1) := by decide +kernel
theorem ddM_heldMany_50 : decode cM_heldMany 50 = .ok (.ireturn, 1) := by decide +kernel
set_option maxHeartbeats 2000000 in
theorem zBM_heldMany_16 {G : GXM} {X : CxM} (hG : GokM G) (C : CoM G X cM_heldMany "HomeFreedModel") (N : mLM X = 4) {d : Nat} (hD : dpM X = d) (hd : 2 ≤ d) {v0 : Nat} {v2 : Int32} {K : Nat → Int32 → Int32 → Int32 → Mem → Option ((Int32 × Mem))} {q : (Int32 × Mem)} (hK : ∀ (v1 : Int32) (v3 : Int32) (M : Mem), K v0 v1 v2 v3 M = some q → ZM G X 16 [(0, .ref v0), (1, .int v1), (2, .int v2), (3, .int v3)] [] M 0 0) (hx0 : ∀ y : Int32 × Mem, q = y → ZM G X 43 [(0, .ref v0), (1, .int y.1), (2, .int v2)] [] y.2 0 0) {v1 : Int32} {v3 : Int32} {M : Mem} (h : BM_heldMany_16 K v0 v1 v2 v3 M = some q) : ZM G X 16 [(0, .ref v0), (1, .int v1), (2, .int v2), (3, .int v3)] [] M 0 0 := by
  unfold BM_heldMany_16 at h
  refine zz_iload_n C 3 ddM_heldMany_16 rfl rfl ?_
  refine zz_aload_n C 0 ddM_heldMany_17 rfl rfl ?_
  refine zz_iload_n C 2 ddM_heldMany_18 rfl rfl ?_
  obtain ⟨h2, h⟩ := gdN h
  obtain ⟨q1, hq1, h⟩ := bindN h
  refine zz_callV0 (As := [.int v2]) C ddM_heldMany_19 wd_1390 my_M_blocksOf mv_M_blocksOf ⟨_, rfl, rfl⟩ (xM_blocksOf hG (d - 1) (by omega) hq1) (by omega) h2 rfl rfl (Nat.le_of_ble_eq_true rfl) ?_
  refine zz_icmp_ge (tgt := 43) C ddM_heldMany_22 rfl (fun hc => ?_) (fun hc => ?_)
  · replace h := iteT h hc
    refine zz_loc (L1 := [(0, .ref v0), (1, .int v1), (2, .int v2)]) [0, 1, 2] rfl ?_
    exact hx0 _ (Option.some.inj h).symm
  · replace h := iteF h hc
    refine zz_iload_n C 1 ddM_heldMany_25 rfl rfl ?_
    refine zz_aload_n C 0 ddM_heldMany_26 rfl rfl ?_
    refine zz_iload_n C 2 ddM_heldMany_27 rfl rfl ?_
    refine zz_bipush (v := 126) C ddM_heldMany_28 (by decide) ?_
    refine zz_iload_n C 3 ddM_heldMany_30 rfl rfl ?_
    refine zz_iadd C ddM_heldMany_31 ?_
    obtain ⟨h4, h⟩ := gdN h
    obtain ⟨q3, hq3, h⟩ := bindN h
    refine zz_callV0 (As := [.int v2, .int (126 + v3)]) C ddM_heldMany_32 wd_1378 my_M_of mv_M_of ⟨_, rfl, rfl⟩ (xM_of hG (d - 1) (by omega) hq3) (by omega) h4 rfl rfl (Nat.le_of_ble_eq_true rfl) ?_
    refine zz_iadd C ddM_heldMany_35 ?_
    refine zz_istore_n (L1 := [(1, .int (v1 + q3.1)), (0, .ref v0), (2, .int v2), (3, .int v3)]) C ddM_heldMany_36 rfl N (by decide) rfl ?_
    refine zz_iinc (v := v3 + 1) (L1 := [(3, .int (v3 + 1)), (1, .int (v1 + q3.1)), (0, .ref v0), (2, .int v2)]) C 3 ddM_heldMany_37 rfl rfl N (by decide) rfl ?_
    refine zz_goto (tgt := 16) C ddM_heldMany_40 rfl ?_
    refine zz_loc (L1 := [(0, .ref v0), (1, .int (v1 + q3.1)), (2, .int v2), (3, .int (v3 + 1))]) [2, 1, 3, 0] rfl ?_
    exact hK _ _ _ h
set_option maxHeartbeats 2000000 in
theorem zLM_heldMany_16 {G : GXM} {X : CxM} (hG : GokM G) (C : CoM G X cM_heldMany "HomeFreedModel") (N : mLM X = 4) {d : Nat} (hD : dpM X = d) (hd : 2 ≤ d) {v0 : Nat} {v2 : Int32} {q : (Int32 × Mem)} : ∀ (f : Nat) (v1 : Int32) (v3 : Int32) (M : Mem), LM_heldMany_16 f v0 v1 v2 v3 M = some q → (hx0 : ∀ y : Int32 × Mem, q = y → ZM G X 43 [(0, .ref v0), (1, .int y.1), (2, .int v2)] [] y.2 0 0) → ZM G X 16 [(0, .ref v0), (1, .int v1), (2, .int v2), (3, .int v3)] [] M 0 0 := by
  intro f
  induction f with
  | zero => intro v1 v3 M h; cases h
  | succ f ih =>
    intro v1 v3 M h hx0
    exact zBM_heldMany_16 hG C N hD hd (K := LM_heldMany_16 f) (q := q) (fun v1 v3 M h => ih v1 v3 M h hx0) hx0 h
set_option maxHeartbeats 2000000 in
theorem zBM_heldMany_4 {G : GXM} {X : CxM} (hG : GokM G) (C : CoM G X cM_heldMany "HomeFreedModel") (N : mLM X = 4) {d : Nat} (hD : dpM X = d) (hd : 2 ≤ d) {v0 : Nat} {K : Nat → Int32 → Int32 → Mem → Option ((Int32 × Mem))} {q : (Int32 × Mem)} (hK : ∀ (v1 : Int32) (v2 : Int32) (M : Mem), K v0 v1 v2 M = some q → ZM G X 4 [(0, .ref v0), (1, .int v1), (2, .int v2)] [] M 0 0) (hr : ∀ r : Int32 × Mem, q =  r → EnM G X (some .int) (some (.int r.1)) r.2 0 0) {v1 : Int32} {v2 : Int32} {M : Mem} (h : BM_heldMany_4 K v0 v1 v2 M = some q) : ZM G X 4 [(0, .ref v0), (1, .int v1), (2, .int v2)] [] M 0 0 := by
  unfold BM_heldMany_4 at h
  refine zz_iload_n C 2 ddM_heldMany_4 rfl rfl ?_
  refine zz_aload_n C 0 ddM_heldMany_5 rfl rfl ?_
  obtain ⟨h1, h⟩ := gdN h
  obtain ⟨h2, h⟩ := gdN h
  refine zz_getr C ddM_heldMany_6 fl_M_19 rfl h1 (of_decide_eq_true h2) ?_
  refine zz_iconst (v := 1) C ddM_heldMany_9 (by decide) ?_
  obtain ⟨h3, h⟩ := gdN h
  refine zz_iaload C ddM_heldMany_10 h3 ?_
  refine zz_icmp_ge (tgt := 49) C ddM_heldMany_11 rfl (fun hc => ?_) (fun hc => ?_)
  · replace h := iteT h hc
    refine zz_iload_n C 1 ddM_heldMany_49 rfl rfl ?_
    exact zz_iret C (hr _ (Option.some.inj h).symm) ddM_heldMany_50
  · replace h := iteF h hc
    refine zz_iconst (v := 0) C ddM_heldMany_14 (by decide) ?_
    refine zz_istore_n (L1 := [(3, .int 0), (0, .ref v0), (1, .int v1), (2, .int v2)]) C ddM_heldMany_15 rfl N (by decide) rfl ?_
    refine zz_loc (L1 := [(0, .ref v0), (1, .int v1), (2, .int v2), (3, .int 0)]) [1, 2, 3, 0] rfl ?_
    obtain ⟨q4, hq4, h⟩ := bindN h
    refine zLM_heldMany_16 hG C N hD hd 1000000 _ _ _ hq4 ?_
    · intro y5 eq4; subst eq4
      refine zz_iinc (v := v2 + 1) (L1 := [(2, .int (v2 + 1)), (0, .ref v0), (1, .int y5.1)]) C 2 ddM_heldMany_43 rfl rfl N (by decide) rfl ?_
      refine zz_goto (tgt := 4) C ddM_heldMany_46 rfl ?_
      refine zz_loc (L1 := [(0, .ref v0), (1, .int y5.1), (2, .int (v2 + 1))]) [1, 2, 0] rfl ?_
      exact hK _ _ _ h
set_option maxHeartbeats 2000000 in
theorem zLM_heldMany_4 {G : GXM} {X : CxM} (hG : GokM G) (C : CoM G X cM_heldMany "HomeFreedModel") (N : mLM X = 4) {d : Nat} (hD : dpM X = d) (hd : 2 ≤ d) {v0 : Nat} {q : (Int32 × Mem)} : ∀ (f : Nat) (v1 : Int32) (v2 : Int32) (M : Mem), LM_heldMany_4 f v0 v1 v2 M = some q → (hr : ∀ r : Int32 × Mem, q =  r → EnM G X (some .int) (some (.int r.1)) r.2 0 0) → ZM G X 4 [(0, .ref v0), (1, .int v1), (2, .int v2)] [] M 0 0 := by
  intro f
  induction f with
  | zero => intro v1 v2 M h; cases h
  | succ f ih =>
    intro v1 v2 M h hr
    exact zBM_heldMany_4 hG C N hD hd (K := LM_heldMany_4 f) (q := q) (fun v1 v2 M h => ih v1 v2 M h hr) hr h
set_option maxHeartbeats 2000000 in
theorem xM_heldMany {G : GXM} {l : Launch} (hG : GokM G) (d : Nat) (hd : 2 ≤ d) {v0 : Nat} {M : Mem} {q : Int32 × Mem} (h : fM_heldMany v0 M = some q) : ExM G l d 0 0 yM_heldMany cM_heldMany 4 (some .int) [.ref v0] M (some (.int q.1)) q.2 := by
  refine ex_of hG (by decide) (Nat.le_of_ble_eq_true rfl) ?_
  intro X hl C E N hD hn
  show ZM G X 0 [(2, .int v2), (1, .int v1), (0, .ref v0)] [] M 0 0
  unfold fM_heldMany at h
  refine zz_iconst (v := 0) C ddM_heldMany_0 (by decide) ?_
  refine zz_istore_n (L1 := [(1, .int 0), (0, .ref v0)]) C ddM_heldMany_1 rfl N (by decide) rfl ?_
  refine zz_iconst (v := 0) C ddM_heldMany_2 (by decide) ?_
  refine zz_istore_n (L1 := [(2, .int 0), (1, .int 0), (0, .ref v0)]) C ddM_heldMany_3 rfl N (by decide) rfl ?_
  refine zz_loc (L1 := [(0, .ref v0), (1, .int 0), (2, .int 0)]) [2, 1, 0] rfl ?_
  obtain ⟨q1, hq1, h⟩ := bindN h
  refine zLM_heldMany_4 hG C N hD hd 1000000 _ _ _ hq1 ?_
  · intro r2 eq1; subst eq1
    obtain rfl := Option.some.inj h
    exact E
theorem ddM_heldAt_0 : decode cM_heldAt 0 = .ok (.iconst 0, 1) := by decide +kernel
theorem ddM_heldAt_1 : decode cM_heldAt 1 = .ok (.istore_n 2, 1) := by decide +kernel
theorem ddM_heldAt_2 : decode cM_heldAt 2 = .ok (.iconst 0, 1) := by decide +kernel
theorem ddM_heldAt_3 : decode cM_heldAt 3 = .ok (.istore_n 3, 1) := by decide +kernel
theorem ddM_heldAt_4 : decode cM_heldAt 4 = .ok (.iload_n 3, 1) := by decide +kernel
theorem ddM_heldAt_5 : decode cM_heldAt 5 = .ok (.aload_n 0, 1) := by decide +kernel
theorem ddM_heldAt_6 : decode cM_heldAt 6 = .ok (.getfield 19, 3) := by decide +kernel
theorem ddM_heldAt_9 : decode cM_heldAt 9 = .ok (.iconst 1, 1) := by decide +kernel
theorem ddM_heldAt_10 : decode cM_heldAt 10 = .ok (.iaload, 1) := by decide +kernel
theorem ddM_heldAt_11 : decode cM_heldAt 11 = .ok (.if_icmp .ge 58, 3) := by decide +kernel
theorem ddM_heldAt_14 : decode cM_heldAt 14 = .ok (.iconst 0, 1) := by decide +kernel
theorem ddM_heldAt_15 : decode cM_heldAt 15 = .ok (.istore 4, 2) := by decide +kernel
theorem ddM_heldAt_17 : decode cM_heldAt 17 = .ok (.iload 4, 2) := by decide +kernel
theorem ddM_heldAt_19 : decode cM_heldAt 19 = .ok (.aload_n 0, 1) := by decide +kernel
theorem ddM_heldAt_20 : decode cM_heldAt 20 = .ok (.iload_n 3, 1) := by decide +kernel
theorem ddM_heldAt_21 : decode cM_heldAt 21 = .ok (.invokevirtual 176, 3) := by decide +kernel
theorem ddM_heldAt_24 : decode cM_heldAt 24 = .ok (.if_icmp .ge 39, 3) := by decide +kernel
theorem ddM_heldAt_27 : decode cM_heldAt 27 = .ok (.aload_n 0, 1) := by decide +kernel
theorem ddM_heldAt_28 : decode cM_heldAt 28 = .ok (.iload_n 3, 1) := by decide +kernel
theorem ddM_heldAt_29 : decode cM_heldAt 29 = .ok (.bipush 126, 2) := by decide +kernel
theorem ddM_heldAt_31 : decode cM_heldAt 31 = .ok (.iload 4, 2) := by decide +kernel
theorem ddM_heldAt_33 : decode cM_heldAt 33 = .ok (.iadd, 1) := by decide +kernel
theorem ddM_heldAt_34 : decode cM_heldAt 34 = .ok (.invokevirtual 170, 3) := by decide +kernel
theorem ddM_heldAt_37 : decode cM_heldAt 37 = .ok (.iconst 1, 1) := by decide +kernel
theorem ddM_heldAt_38 : decode cM_heldAt 38 = .ok (.if_icmp .ne 19, 3) := by decide +kernel
theorem ddM_heldAt_41 : decode cM_heldAt 41 = .ok (.iload_n 2, 1) := by decide +kernel
theorem ddM_heldAt_42 : decode cM_heldAt 42 = .ok (.iload_n 1, 1) := by decide +kernel
theorem ddM_heldAt_43 : decode cM_heldAt 43 = .ok (.if_icmp .ne 11, 3) := by decide +kernel
theorem ddM_heldAt_46 : decode cM_heldAt 46 = .ok (.bipush 100, 2) := by decide +kernel
theorem ddM_heldAt_48 : decode cM_heldAt 48 = .ok (.iload_n 3, 1) := by decide +kernel
theorem ddM_heldAt_49 : decode cM_heldAt 49 = .ok (.imul, 1) := by decide +kernel
theorem ddM_heldAt_50 : decode cM_heldAt 50 = .ok (.iload 4, 2) := by decide +kernel
theorem ddM_heldAt_52 : decode cM_heldAt 52 = .ok (.iadd, 1) := by decide +kernel
theorem ddM_heldAt_53 : decode cM_heldAt 53 = .ok (.ireturn, 1) := by decide +kernel
theorem ddM_heldAt_54 : decode cM_heldAt 54 = .ok (.iinc 2 1, 3) := by decide +kernel
theorem ddM_heldAt_57 : decode cM_heldAt 57 = .ok (.iinc 4 1, 3) := by decide +kernel
theorem ddM_heldAt_60 : decode cM_heldAt 60 = .ok (.goto (-43), 3) := by decide +kernel
theorem ddM_heldAt_63 : decode cM_heldAt 63 = .ok (.iinc 3 1, 3) := by decide +kernel
theorem ddM_heldAt_66 : decode cM_heldAt 66 = .ok (.goto (-62), 3) := by decide +kernel
theorem ddM_heldAt_69 : decode cM_heldAt 69 = .ok (.iconst (-1), 1) := by decide +kernel
theorem ddM_heldAt_70 : decode cM_heldAt 70 = .ok (.ireturn, 1) := by decide +kernel
set_option maxHeartbeats 2000000 in
theorem zBM_heldAt_57 {G : GXM} {X : CxM} (hG : GokM G) (C : CoM G X cM_heldAt "HomeFreedModel") (N : mLM X = 5) {d : Nat} (hD : dpM X = d) (hd : 2 ≤ d) {v0 : Nat} {v1 : Int32} {v3 : Int32} {K : Nat → Int32 → Int32 → Int32 → Int32 → Mem → Option ((Int32 × Mem) ⊕ (Int32 × Mem))} {q : (Int32 × Mem) ⊕ (Int32 × Mem)} (hK : ∀ (v2 : Int32) (v4 : Int32) (M : Mem), K v0 v1 v2 v3 v4 M = some q → ZM G X 17 [(0, .ref v0), (1, .int v1), (2, .int v2), (3, .int v3), (4, .int v4)] [] M 0 0) (hr : ∀ r : Int32 × Mem, q = .inl r → EnM G X (some .int) (some (.int r.1)) r.2 0 0) (hx0 : ∀ y : Int32 × Mem, q = (.inr y) → ZM G X 63 [(0, .ref v0), (1, .int v1), (2, .int y.1), (3, .int v3)] [] y.2 0 0) {v2 : Int32} {v4 : Int32} {M : Mem} (h : BM_heldAt_57 K v0 v1 v2 v3 v4 M = some q) : ZM G X 57 [(0, .ref v0), (1, .int v1), (2, .int v2), (3, .int v3), (4, .int v4)] [] M 0 0 := by
  unfold BM_heldAt_57 at h
  refine zz_iinc (v := v4 + 1) (L1 := [(4, .int (v4 + 1)), (0, .ref v0), (1, .int v1), (2, .int v2), (3, .int v3)]) C 4 ddM_heldAt_57 rfl rfl N (by decide) rfl ?_
  refine zz_goto (tgt := 17) C ddM_heldAt_60 rfl ?_
  refine zz_loc (L1 := [(0, .ref v0), (1, .int v1), (2, .int v2), (3, .int v3), (4, .int (v4 + 1))]) [1, 2, 3, 4, 0] rfl ?_
  exact hK _ _ _ h
set_option maxHeartbeats 2000000 in
theorem zBM_heldAt_17 {G : GXM} {X : CxM} (hG : GokM G) (C : CoM G X cM_heldAt "HomeFreedModel") (N : mLM X = 5) {d : Nat} (hD : dpM X = d) (hd : 2 ≤ d) {v0 : Nat} {v1 : Int32} {v3 : Int32} {K : Nat → Int32 → Int32 → Int32 → Int32 → Mem → Option ((Int32 × Mem) ⊕ (Int32 × Mem))} {q : (Int32 × Mem) ⊕ (Int32 × Mem)} (hK : ∀ (v2 : Int32) (v4 : Int32) (M : Mem), K v0 v1 v2 v3 v4 M = some q → ZM G X 17 [(0, .ref v0), (1, .int v1), (2, .int v2), (3, .int v3), (4, .int v4)] [] M 0 0) (hr : ∀ r : Int32 × Mem, q = .inl r → EnM G X (some .int) (some (.int r.1)) r.2 0 0) (hx0 : ∀ y : Int32 × Mem, q = (.inr y) → ZM G X 63 [(0, .ref v0), (1, .int v1), (2, .int y.1), (3, .int v3)] [] y.2 0 0) {v2 : Int32} {v4 : Int32} {M : Mem} (h : BM_heldAt_17 K v0 v1 v2 v3 v4 M = some q) : ZM G X 17 [(0, .ref v0), (1, .int v1), (2, .int v2), (3, .int v3), (4, .int v4)] [] M 0 0 := by
  unfold BM_heldAt_17 at h
  refine zz_iload C 4 ddM_heldAt_17 rfl ?_
  refine zz_aload_n C 0 ddM_heldAt_19 rfl rfl ?_
  refine zz_iload_n C 3 ddM_heldAt_20 rfl rfl ?_
  obtain ⟨h2, h⟩ := gdN h
  obtain ⟨q1, hq1, h⟩ := bindN h
  refine zz_callV0 (As := [.int v3]) C ddM_heldAt_21 wd_1390 my_M_blocksOf mv_M_blocksOf ⟨_, rfl, rfl⟩ (xM_blocksOf hG (d - 1) (by omega) hq1) (by omega) h2 rfl rfl (Nat.le_of_ble_eq_true rfl) ?_
  refine zz_icmp_ge (tgt := 63) C ddM_heldAt_24 rfl (fun hc => ?_) (fun hc => ?_)
  · replace h := iteT h hc
    refine zz_loc (L1 := [(0, .ref v0), (1, .int v1), (2, .int v2), (3, .int v3)]) [0, 1, 2, 3] rfl ?_
    exact hx0 _ (Option.some.inj h).symm
  · replace h := iteF h hc
    refine zz_aload_n C 0 ddM_heldAt_27 rfl rfl ?_
    refine zz_iload_n C 3 ddM_heldAt_28 rfl rfl ?_
    refine zz_bipush (v := 126) C ddM_heldAt_29 (by decide) ?_
    refine zz_iload C 4 ddM_heldAt_31 rfl ?_
    refine zz_iadd C ddM_heldAt_33 ?_
    obtain ⟨h4, h⟩ := gdN h
    obtain ⟨q3, hq3, h⟩ := bindN h
    refine zz_callV0 (As := [.int v3, .int (126 + v4)]) C ddM_heldAt_34 wd_1378 my_M_of mv_M_of ⟨_, rfl, rfl⟩ (xM_of hG (d - 1) (by omega) hq3) (by omega) h4 rfl rfl (Nat.le_of_ble_eq_true rfl) ?_
    refine zz_iconst (v := 1) C ddM_heldAt_37 (by decide) ?_
    refine zz_icmp_ne (tgt := 57) C ddM_heldAt_38 rfl (fun hc => ?_) (fun hc => ?_)
    · replace h := iteF h hc
      exact zBM_heldAt_57 hG C N hD hd hK hr hx0 h
    · replace h := iteT h hc
      refine zz_iload_n C 2 ddM_heldAt_41 rfl rfl ?_
      refine zz_iload_n C 1 ddM_heldAt_42 rfl rfl ?_
      refine zz_icmp_ne (tgt := 54) C ddM_heldAt_43 rfl (fun hc => ?_) (fun hc => ?_)
      · replace h := iteF h hc
        refine zz_iinc (v := v2 + 1) (L1 := [(2, .int (v2 + 1)), (0, .ref v0), (1, .int v1), (3, .int v3), (4, .int v4)]) C 2 ddM_heldAt_54 rfl rfl N (by decide) rfl ?_
        refine zz_loc (L1 := [(0, .ref v0), (1, .int v1), (2, .int (v2 + 1)), (3, .int v3), (4, .int v4)]) [1, 2, 0, 3, 4] rfl ?_
        exact zBM_heldAt_57 hG C N hD hd hK hr hx0 h
      · replace h := iteT h hc
        refine zz_bipush (v := 100) C ddM_heldAt_46 (by decide) ?_
        refine zz_iload_n C 3 ddM_heldAt_48 rfl rfl ?_
        refine zz_imul C ddM_heldAt_49 ?_
        refine zz_iload C 4 ddM_heldAt_50 rfl ?_
        refine zz_iadd C ddM_heldAt_52 ?_
        exact zz_iret C (hr _ (Option.some.inj h).symm) ddM_heldAt_53
set_option maxHeartbeats 2000000 in
theorem zLM_heldAt_17 {G : GXM} {X : CxM} (hG : GokM G) (C : CoM G X cM_heldAt "HomeFreedModel") (N : mLM X = 5) {d : Nat} (hD : dpM X = d) (hd : 2 ≤ d) {v0 : Nat} {v1 : Int32} {v3 : Int32} {q : (Int32 × Mem) ⊕ (Int32 × Mem)} : ∀ (f : Nat) (v2 : Int32) (v4 : Int32) (M : Mem), LM_heldAt_17 f v0 v1 v2 v3 v4 M = some q → (hr : ∀ r : Int32 × Mem, q = .inl r → EnM G X (some .int) (some (.int r.1)) r.2 0 0) → (hx0 : ∀ y : Int32 × Mem, q = (.inr y) → ZM G X 63 [(0, .ref v0), (1, .int v1), (2, .int y.1), (3, .int v3)] [] y.2 0 0) → ZM G X 17 [(0, .ref v0), (1, .int v1), (2, .int v2), (3, .int v3), (4, .int v4)] [] M 0 0 := by
  intro f
  induction f with
  | zero => intro v2 v4 M h; cases h
  | succ f ih =>
    intro v2 v4 M h hr hx0
    exact zBM_heldAt_17 hG C N hD hd (K := LM_heldAt_17 f) (q := q) (fun v2 v4 M h => ih v2 v4 M h hr hx0) hr hx0 h
set_option maxHeartbeats 2000000 in
theorem zBM_heldAt_4 {G : GXM} {X : CxM} (hG : GokM G) (C : CoM G X cM_heldAt "HomeFreedModel") (N : mLM X = 5) {d : Nat} (hD : dpM X = d) (hd : 2 ≤ d) {v0 : Nat} {v1 : Int32} {K : Nat → Int32 → Int32 → Int32 → Mem → Option ((Int32 × Mem))} {q : (Int32 × Mem)} (hK : ∀ (v2 : Int32) (v3 : Int32) (M : Mem), K v0 v1 v2 v3 M = some q → ZM G X 4 [(0, .ref v0), (1, .int v1), (2, .int v2), (3, .int v3)] [] M 0 0) (hr : ∀ r : Int32 × Mem, q =  r → EnM G X (some .int) (some (.int r.1)) r.2 0 0) {v2 : Int32} {v3 : Int32} {M : Mem} (h : BM_heldAt_4 K v0 v1 v2 v3 M = some q) : ZM G X 4 [(0, .ref v0), (1, .int v1), (2, .int v2), (3, .int v3)] [] M 0 0 := by
  unfold BM_heldAt_4 at h
  refine zz_iload_n C 3 ddM_heldAt_4 rfl rfl ?_
  refine zz_aload_n C 0 ddM_heldAt_5 rfl rfl ?_
  obtain ⟨h1, h⟩ := gdN h
  obtain ⟨h2, h⟩ := gdN h
  refine zz_getr C ddM_heldAt_6 fl_M_19 rfl h1 (of_decide_eq_true h2) ?_
  refine zz_iconst (v := 1) C ddM_heldAt_9 (by decide) ?_
  obtain ⟨h3, h⟩ := gdN h
  refine zz_iaload C ddM_heldAt_10 h3 ?_
  refine zz_icmp_ge (tgt := 69) C ddM_heldAt_11 rfl (fun hc => ?_) (fun hc => ?_)
  · replace h := iteT h hc
    refine zz_iconst (v := (-1)) C ddM_heldAt_69 (by decide) ?_
    exact zz_iret C (hr _ (Option.some.inj h).symm) ddM_heldAt_70
  · replace h := iteF h hc
    refine zz_iconst (v := 0) C ddM_heldAt_14 (by decide) ?_
    refine zz_istore (L1 := [(4, .int 0), (0, .ref v0), (1, .int v1), (2, .int v2), (3, .int v3)]) C ddM_heldAt_15 N (by decide) rfl ?_
    refine zz_loc (L1 := [(0, .ref v0), (1, .int v1), (2, .int v2), (3, .int v3), (4, .int 0)]) [1, 2, 3, 4, 0] rfl ?_
    obtain ⟨q4, hq4, h⟩ := bindN h
    refine zLM_heldAt_17 hG C N hD hd 1000000 _ _ _ hq4 ?_ ?_
    · intro r5 eq4; subst eq4
      exact hr _ (Option.some.inj h).symm
    · intro y6 eq4; subst eq4
      refine zz_iinc (v := v3 + 1) (L1 := [(3, .int (v3 + 1)), (0, .ref v0), (1, .int v1), (2, .int y6.1)]) C 3 ddM_heldAt_63 rfl rfl N (by decide) rfl ?_
      refine zz_goto (tgt := 4) C ddM_heldAt_66 rfl ?_
      refine zz_loc (L1 := [(0, .ref v0), (1, .int v1), (2, .int y6.1), (3, .int (v3 + 1))]) [1, 2, 3, 0] rfl ?_
      exact hK _ _ _ h
set_option maxHeartbeats 2000000 in
theorem zLM_heldAt_4 {G : GXM} {X : CxM} (hG : GokM G) (C : CoM G X cM_heldAt "HomeFreedModel") (N : mLM X = 5) {d : Nat} (hD : dpM X = d) (hd : 2 ≤ d) {v0 : Nat} {v1 : Int32} {q : (Int32 × Mem)} : ∀ (f : Nat) (v2 : Int32) (v3 : Int32) (M : Mem), LM_heldAt_4 f v0 v1 v2 v3 M = some q → (hr : ∀ r : Int32 × Mem, q =  r → EnM G X (some .int) (some (.int r.1)) r.2 0 0) → ZM G X 4 [(0, .ref v0), (1, .int v1), (2, .int v2), (3, .int v3)] [] M 0 0 := by
  intro f
  induction f with
  | zero => intro v2 v3 M h; cases h
  | succ f ih =>
    intro v2 v3 M h hr
    exact zBM_heldAt_4 hG C N hD hd (K := LM_heldAt_4 f) (q := q) (fun v2 v3 M h => ih v2 v3 M h hr) hr h
set_option maxHeartbeats 2000000 in
theorem xM_heldAt {G : GXM} {l : Launch} (hG : GokM G) (d : Nat) (hd : 2 ≤ d) {v0 : Nat} {v1 : Int32} {M : Mem} {q : Int32 × Mem} (h : fM_heldAt v0 v1 M = some q) : ExM G l d 0 0 yM_heldAt cM_heldAt 5 (some .int) [.ref v0, .int v1] M (some (.int q.1)) q.2 := by
  refine ex_of hG (by decide) (Nat.le_of_ble_eq_true rfl) ?_
  intro X hl C E N hD hn
  show ZM G X 0 [(3, .int v3), (2, .int v2), (0, .ref v0), (1, .int v1)] [] M 0 0
  unfold fM_heldAt at h
  refine zz_iconst (v := 0) C ddM_heldAt_0 (by decide) ?_
  refine zz_istore_n (L1 := [(2, .int 0), (0, .ref v0), (1, .int v1)]) C ddM_heldAt_1 rfl N (by decide) rfl ?_
  refine zz_iconst (v := 0) C ddM_heldAt_2 (by decide) ?_
  refine zz_istore_n (L1 := [(3, .int 0), (2, .int 0), (0, .ref v0), (1, .int v1)]) C ddM_heldAt_3 rfl N (by decide) rfl ?_
  refine zz_loc (L1 := [(0, .ref v0), (1, .int v1), (2, .int 0), (3, .int 0)]) [2, 3, 1, 0] rfl ?_
  obtain ⟨q1, hq1, h⟩ := bindN h
  refine zLM_heldAt_4 hG C N hD hd 1000000 _ _ _ hq1 ?_
  · intro r2 eq1; subst eq1
    obtain rfl := Option.some.inj h
    exact E
theorem ddM_drawOnce_0 : decode cM_drawOnce 0 = .ok (.aload_n 0, 1) := by decide +kernel
theorem ddM_drawOnce_1 : decode cM_drawOnce 1 = .ok (.aload_n 0, 1) := by decide +kernel
theorem ddM_drawOnce_2 : decode cM_drawOnce 2 = .ok (.getfield 19, 3) := by decide +kernel
theorem ddM_drawOnce_5 : decode cM_drawOnce 5 = .ok (.iconst 0, 1) := by decide +kernel
theorem ddM_drawOnce_6 : decode cM_drawOnce 6 = .ok (.iaload, 1) := by decide +kernel
theorem ddM_drawOnce_7 : decode cM_drawOnce 7 = .ok (.invokevirtual 335, 3) := by decide +kernel
theorem ddM_drawOnce_10 : decode cM_drawOnce 10 = .ok (.istore_n 1, 1) := by decide +kernel
theorem ddM_drawOnce_11 : decode cM_drawOnce 11 = .ok (.aload_n 0, 1) := by decide +kernel
theorem ddM_drawOnce_12 : decode cM_drawOnce 12 = .ok (.iconst 3, 1) := by decide +kernel
theorem ddM_drawOnce_13 : decode cM_drawOnce 13 = .ok (.invokevirtual 335, 3) := by decide +kernel
theorem ddM_drawOnce_16 : decode cM_drawOnce 16 = .ok (.iconst 2, 1) := by decide +kernel
theorem ddM_drawOnce_17 : decode cM_drawOnce 17 = .ok (.if_icmp .ge 58, 3) := by decide +kernel
theorem ddM_drawOnce_20 : decode cM_drawOnce 20 = .ok (.aload_n 0, 1) := by decide +kernel
theorem ddM_drawOnce_21 : decode cM_drawOnce 21 = .ok (.aload_n 0, 1) := by decide +kernel
theorem ddM_drawOnce_22 : decode cM_drawOnce 22 = .ok (.aload_n 0, 1) := by decide +kernel
theorem ddM_drawOnce_23 : decode cM_drawOnce 23 = .ok (.getfield 19, 3) := by decide +kernel
theorem ddM_drawOnce_26 : decode cM_drawOnce 26 = .ok (.iconst 2, 1) := by decide +kernel
theorem ddM_drawOnce_27 : decode cM_drawOnce 27 = .ok (.iaload, 1) := by decide +kernel
theorem ddM_drawOnce_28 : decode cM_drawOnce 28 = .ok (.invokevirtual 335, 3) := by decide +kernel
theorem ddM_drawOnce_31 : decode cM_drawOnce 31 = .ok (.iconst 1, 1) := by decide +kernel
theorem ddM_drawOnce_32 : decode cM_drawOnce 32 = .ok (.iadd, 1) := by decide +kernel
theorem ddM_drawOnce_33 : decode cM_drawOnce 33 = .ok (.invokevirtual 263, 3) := by decide +kernel
theorem ddM_drawOnce_36 : decode cM_drawOnce 36 = .ok (.istore_n 2, 1) := by decide +kernel
theorem ddM_drawOnce_37 : decode cM_drawOnce 37 = .ok (.aload_n 0, 1) := by decide +kernel
theorem ddM_drawOnce_38 : decode cM_drawOnce 38 = .ok (.iload_n 1, 1) := by decide +kernel
theorem ddM_drawOnce_39 : decode cM_drawOnce 39 = .ok (.invokevirtual 260, 3) := by decide +kernel
theorem ddM_drawOnce_42 : decode cM_drawOnce 42 = .ok (.ifCond .eq 30, 3) := by decide +kernel
theorem ddM_drawOnce_45 : decode cM_drawOnce 45 = .ok (.iload_n 2, 1) := by decide +kernel
theorem ddM_drawOnce_46 : decode cM_drawOnce 46 = .ok (.iconst (-1), 1) := by decide +kernel
theorem ddM_drawOnce_47 : decode cM_drawOnce 47 = .ok (.if_icmp .eq 25, 3) := by decide +kernel
theorem ddM_drawOnce_50 : decode cM_drawOnce 50 = .ok (.aload_n 0, 1) := by decide +kernel
theorem ddM_drawOnce_51 : decode cM_drawOnce 51 = .ok (.iload_n 1, 1) := by decide +kernel
theorem ddM_drawOnce_52 : decode cM_drawOnce 52 = .ok (.iload_n 2, 1) := by decide +kernel
theorem ddM_drawOnce_53 : decode cM_drawOnce 53 = .ok (.invokevirtual 229, 3) := by decide +kernel
theorem ddM_drawOnce_56 : decode cM_drawOnce 56 = .ok (.ifCond .eq 16, 3) := by decide +kernel
theorem ddM_drawOnce_59 : decode cM_drawOnce 59 = .ok (.aload_n 0, 1) := by decide +kernel
theorem ddM_drawOnce_60 : decode cM_drawOnce 60 = .ok (.iload_n 1, 1) := by decide +kernel
theorem ddM_drawOnce_61 : decode cM_drawOnce 61 = .ok (.iload_n 2, 1) := by decide +kernel
theorem ddM_drawOnce_62 : decode cM_drawOnce 62 = .ok (.invokevirtual 275, 3) := by decide +kernel
theorem ddM_drawOnce_65 : decode cM_drawOnce 65 = .ok (.istore_n 3, 1) := by decide +kernel
theorem ddM_drawOnce_66 : decode cM_drawOnce 66 = .ok (.aload_n 0, 1) := by decide +kernel
theorem ddM_drawOnce_67 : decode cM_drawOnce 67 = .ok (.iload_n 3, 1) := by decide +kernel
theorem ddM_drawOnce_68 : decode cM_drawOnce 68 = .ok (.iload_n 1, 1) := by decide +kernel
theorem ddM_drawOnce_69 : decode cM_drawOnce 69 = .ok (.invokevirtual 278, 3) := by decide +kernel
theorem ddM_drawOnce_72 : decode cM_drawOnce 72 = .ok (.goto 38, 3) := by decide +kernel
theorem ddM_drawOnce_75 : decode cM_drawOnce 75 = .ok (.aload_n 0, 1) := by decide +kernel
theorem ddM_drawOnce_76 : decode cM_drawOnce 76 = .ok (.invokevirtual 338, 3) := by decide +kernel
theorem ddM_drawOnce_79 : decode cM_drawOnce 79 = .ok (.ifCond .le 31, 3) := by decide +kernel
theorem ddM_drawOnce_82 : decode cM_drawOnce 82 = .ok (.aload_n 0, 1) := by decide +kernel
theorem ddM_drawOnce_83 : decode cM_drawOnce 83 = .ok (.aload_n 0, 1) := by decide +kernel
theorem ddM_drawOnce_84 : decode cM_drawOnce 84 = .ok (.aload_n 0, 1) := by decide +kernel
theorem ddM_drawOnce_85 : decode cM_drawOnce 85 = .ok (.invokevirtual 338, 3) := by decide +kernel
theorem ddM_drawOnce_88 : decode cM_drawOnce 88 = .ok (.invokevirtual 335, 3) := by decide +kernel
theorem ddM_drawOnce_91 : decode cM_drawOnce 91 = .ok (.invokevirtual 341, 3) := by decide +kernel
theorem ddM_drawOnce_94 : decode cM_drawOnce 94 = .ok (.istore_n 2, 1) := by decide +kernel
theorem ddM_drawOnce_95 : decode cM_drawOnce 95 = .ok (.aload_n 0, 1) := by decide +kernel
theorem ddM_drawOnce_96 : decode cM_drawOnce 96 = .ok (.iload_n 1, 1) := by decide +kernel
theorem ddM_drawOnce_97 : decode cM_drawOnce 97 = .ok (.invokevirtual 260, 3) := by decide +kernel
theorem ddM_drawOnce_100 : decode cM_drawOnce 100 = .ok (.ifCond .eq 10, 3) := by decide +kernel
theorem ddM_drawOnce_103 : decode cM_drawOnce 103 = .ok (.aload_n 0, 1) := by decide +kernel
theorem ddM_drawOnce_104 : decode cM_drawOnce 104 = .ok (.iload_n 1, 1) := by decide +kernel
theorem ddM_drawOnce_105 : decode cM_drawOnce 105 = .ok (.iload_n 2, 1) := by decide +kernel
theorem ddM_drawOnce_106 : decode cM_drawOnce 106 = .ok (.invokevirtual 272, 3) := by decide +kernel
theorem ddM_drawOnce_109 : decode cM_drawOnce 109 = .ok (.pop, 1) := by decide +kernel
theorem ddM_drawOnce_110 : decode cM_drawOnce 110 = .ok (.return_, 1) := by decide +kernel
set_option maxHeartbeats 2000000 in
theorem zBM_drawOnce_110 {G : GXM} {X : CxM} (hG : GokM G) (C : CoM G X cM_drawOnce "HomeFreedModel") (N : mLM X = 4) {d : Nat} (hD : dpM X = d) (hd : 8 ≤ d)  {q : Mem} (E : EnM G X none none q 0 0) {M : Mem} (h : BM_drawOnce_110 M = some q) : ZM G X 110 [] [] M 0 0 := by
  unfold BM_drawOnce_110 at h
  obtain rfl := Option.some.inj h
  exact zz_vret C E ddM_drawOnce_110
set_option maxHeartbeats 2000000 in
theorem zBM_drawOnce_72 {G : GXM} {X : CxM} (hG : GokM G) (C : CoM G X cM_drawOnce "HomeFreedModel") (N : mLM X = 4) {d : Nat} (hD : dpM X = d) (hd : 8 ≤ d)  {q : Mem} (E : EnM G X none none q 0 0) {M : Mem} (h : BM_drawOnce_72 M = some q) : ZM G X 72 [] [] M 0 0 := by
  unfold BM_drawOnce_72 at h
  refine zz_goto (tgt := 110) C ddM_drawOnce_72 rfl ?_
  exact zBM_drawOnce_110 hG C N hD hd E h
set_option maxHeartbeats 2000000 in
theorem xM_drawOnce {G : GXM} {l : Launch} (hG : GokM G) (d : Nat) (hd : 8 ≤ d) {v0 : Nat} {M : Mem} {q : Mem} (h : fM_drawOnce v0 M = some q) : ExM G l d 0 0 yM_drawOnce cM_drawOnce 4 none [.ref v0] M none q := by
  refine ex_of hG (by decide) (Nat.le_of_ble_eq_true rfl) ?_
  intro X hl C E N hD hn
  show ZM G X 0 [(1, .int v1), (0, .ref v0)] [] M 0 0
  unfold fM_drawOnce at h
  refine zz_aload_n C 0 ddM_drawOnce_0 rfl rfl ?_
  refine zz_aload_n C 0 ddM_drawOnce_1 rfl rfl ?_
  obtain ⟨h1, h⟩ := gdN h
  obtain ⟨h2, h⟩ := gdN h
  refine zz_getr C ddM_drawOnce_2 fl_M_19 rfl h1 (of_decide_eq_true h2) ?_
  refine zz_iconst (v := 0) C ddM_drawOnce_5 (by decide) ?_
  obtain ⟨h3, h⟩ := gdN h
  refine zz_iaload C ddM_drawOnce_6 h3 ?_
  obtain ⟨q4, hq4, h⟩ := bindN h
  refine zz_callV0 (As := [.int (giM M (grM M v0 8) (Int32.toNatClampNeg 0))]) C ddM_drawOnce_7 wd_1627 my_M_draw mv_M_draw ⟨_, rfl, rfl⟩ (xM_draw hG (d - 1) (by omega) hq4) (by omega) h1 rfl rfl (Nat.le_of_ble_eq_true rfl) ?_
  refine zz_istore_n (L1 := [(1, .int q4.1), (0, .ref v0)]) C ddM_drawOnce_10 rfl N (by decide) rfl ?_
  refine zz_aload_n C 1 ddM_drawOnce_11 rfl rfl ?_
  refine zz_iconst (v := 3) C ddM_drawOnce_12 (by decide) ?_
  obtain ⟨h6, h⟩ := gdN h
  obtain ⟨q5, hq5, h⟩ := bindN h
  refine zz_callV0 (As := [.int 3]) C ddM_drawOnce_13 wd_1627 my_M_draw mv_M_draw ⟨_, rfl, rfl⟩ (xM_draw hG (d - 1) (by omega) hq5) (by omega) h6 rfl rfl (Nat.le_of_ble_eq_true rfl) ?_
  refine zz_iconst (v := 2) C ddM_drawOnce_16 (by decide) ?_
  refine zz_icmp_ge (tgt := 75) C ddM_drawOnce_17 rfl (fun hc => ?_) (fun hc => ?_)
  · replace h := iteT h hc
    refine zz_aload_n C 1 ddM_drawOnce_75 rfl rfl ?_
    obtain ⟨h8, h⟩ := gdN h
    obtain ⟨q7, hq7, h⟩ := bindN h
    refine zz_callV0 (As := []) C ddM_drawOnce_76 wd_1633 my_M_heldMany mv_M_heldMany ⟨_, rfl, rfl⟩ (xM_heldMany hG (d - 1) (by omega) hq7) (by omega) h8 rfl rfl (Nat.le_of_ble_eq_true rfl) ?_
    refine zz_if_le (tgt := 110) C ddM_drawOnce_79 rfl (fun hc => ?_) (fun hc => ?_)
    · replace h := iteT h hc
      refine zz_loc (L1 := []) [] rfl ?_
      exact zBM_drawOnce_110 hG C N hD hd E h
    · replace h := iteF h hc
      refine zz_aload_n C 1 ddM_drawOnce_82 rfl rfl ?_
      refine zz_aload_n C 1 ddM_drawOnce_83 rfl rfl ?_
      refine zz_aload_n C 1 ddM_drawOnce_84 rfl rfl ?_
      obtain ⟨h10, h⟩ := gdN h
      obtain ⟨q9, hq9, h⟩ := bindN h
      refine zz_callV0 (As := []) C ddM_drawOnce_85 wd_1633 my_M_heldMany mv_M_heldMany ⟨_, rfl, rfl⟩ (xM_heldMany hG (d - 1) (by omega) hq9) (by omega) h10 rfl rfl (Nat.le_of_ble_eq_true rfl) ?_
      obtain ⟨h12, h⟩ := gdN h
      obtain ⟨q11, hq11, h⟩ := bindN h
      refine zz_callV0 (As := [.int q9.1]) C ddM_drawOnce_88 wd_1627 my_M_draw mv_M_draw ⟨_, rfl, rfl⟩ (xM_draw hG (d - 1) (by omega) hq11) (by omega) h12 rfl rfl (Nat.le_of_ble_eq_true rfl) ?_
      obtain ⟨h14, h⟩ := gdN h
      obtain ⟨q13, hq13, h⟩ := bindN h
      refine zz_callV0 (As := [.int q11.1]) C ddM_drawOnce_91 wd_1637 my_M_heldAt mv_M_heldAt ⟨_, rfl, rfl⟩ (xM_heldAt hG (d - 1) (by omega) hq13) (by omega) h14 rfl rfl (Nat.le_of_ble_eq_true rfl) ?_
      refine zz_istore_n (L1 := [(2, .int q13.1), (1, .int q4.1), (0, .ref v0)]) C ddM_drawOnce_94 rfl N (by decide) rfl ?_
      refine zz_aload_n C 2 ddM_drawOnce_95 rfl rfl ?_
      refine zz_iload_n C 1 ddM_drawOnce_96 rfl rfl ?_
      obtain ⟨h16, h⟩ := gdN h
      obtain ⟨q15, hq15, h⟩ := bindN h
      refine zz_callV0 (As := [.int q4.1]) C ddM_drawOnce_97 wd_1463 my_M_doesLive mv_M_doesLive ⟨_, rfl, rfl⟩ (xM_doesLive hG (d - 1) (by omega) hq15) (by omega) h16 rfl rfl (Nat.le_of_ble_eq_true rfl) ?_
      refine zz_if_eq (tgt := 110) C ddM_drawOnce_100 rfl (fun hc => ?_) (fun hc => ?_)
      · replace h := iteT h hc
        refine zz_loc (L1 := []) [] rfl ?_
        exact zBM_drawOnce_110 hG C N hD hd E h
      · replace h := iteF h hc
        refine zz_aload_n C 2 ddM_drawOnce_103 rfl rfl ?_
        refine zz_iload_n C 1 ddM_drawOnce_104 rfl rfl ?_
        refine zz_iload_n C 0 ddM_drawOnce_105 rfl rfl ?_
        obtain ⟨h18, h⟩ := gdN h
        obtain ⟨q17, hq17, h⟩ := bindN h
        refine zz_callV0 (As := [.int q4.1, .int q13.1]) C ddM_drawOnce_106 wd_1563 my_M_freeNow mv_M_freeNow ⟨_, rfl, rfl⟩ (xM_freeNow hG (d - 1) (by omega) hq17) (by omega) h18 rfl rfl (Nat.le_of_ble_eq_true rfl) ?_
        refine zz_pop C ddM_drawOnce_109 rfl ?_
        refine zz_loc (L1 := []) [] rfl ?_
        exact zBM_drawOnce_110 hG C N hD hd E h
  · replace h := iteF h hc
    refine zz_aload_n C 1 ddM_drawOnce_20 rfl rfl ?_
    refine zz_aload_n C 1 ddM_drawOnce_21 rfl rfl ?_
    refine zz_aload_n C 1 ddM_drawOnce_22 rfl rfl ?_
    obtain ⟨h19, h⟩ := gdN h
    obtain ⟨h20, h⟩ := gdN h
    refine zz_getr C ddM_drawOnce_23 fl_M_19 rfl h19 (of_decide_eq_true h20) ?_
    refine zz_iconst (v := 2) C ddM_drawOnce_26 (by decide) ?_
    obtain ⟨h21, h⟩ := gdN h
    refine zz_iaload C ddM_drawOnce_27 h21 ?_
    obtain ⟨q22, hq22, h⟩ := bindN h
    refine zz_callV0 (As := [.int (giM q5.2 (grM q5.2 v0 8) (Int32.toNatClampNeg 2))]) C ddM_drawOnce_28 wd_1627 my_M_draw mv_M_draw ⟨_, rfl, rfl⟩ (xM_draw hG (d - 1) (by omega) hq22) (by omega) h19 rfl rfl (Nat.le_of_ble_eq_true rfl) ?_
    refine zz_iconst (v := 1) C ddM_drawOnce_31 (by decide) ?_
    refine zz_iadd C ddM_drawOnce_32 ?_
    obtain ⟨h24, h⟩ := gdN h
    obtain ⟨q23, hq23, h⟩ := bindN h
    refine zz_callV0 (As := [.int (q22.1 + 1)]) C ddM_drawOnce_33 wd_1459 my_M_classFor mv_M_classFor ⟨_, rfl, rfl⟩ (xM_classFor hG (d - 1) (by omega) hq23) (by omega) h24 rfl rfl (Nat.le_of_ble_eq_true rfl) ?_
    refine zz_istore_n (L1 := [(2, .int q23.1), (1, .int q4.1), (0, .ref v0)]) C ddM_drawOnce_36 rfl N (by decide) rfl ?_
    refine zz_aload_n C 2 ddM_drawOnce_37 rfl rfl ?_
    refine zz_iload_n C 1 ddM_drawOnce_38 rfl rfl ?_
    obtain ⟨h26, h⟩ := gdN h
    obtain ⟨q25, hq25, h⟩ := bindN h
    refine zz_callV0 (As := [.int q4.1]) C ddM_drawOnce_39 wd_1463 my_M_doesLive mv_M_doesLive ⟨_, rfl, rfl⟩ (xM_doesLive hG (d - 1) (by omega) hq25) (by omega) h26 rfl rfl (Nat.le_of_ble_eq_true rfl) ?_
    refine zz_if_eq (tgt := 72) C ddM_drawOnce_42 rfl (fun hc => ?_) (fun hc => ?_)
    · replace h := iteT h hc
      refine zz_loc (L1 := []) [] rfl ?_
      exact zBM_drawOnce_72 hG C N hD hd E h
    · replace h := iteF h hc
      refine zz_iload_n C 0 ddM_drawOnce_45 rfl rfl ?_
      refine zz_iconst (v := (-1)) C ddM_drawOnce_46 (by decide) ?_
      refine zz_icmp_eq (tgt := 72) C ddM_drawOnce_47 rfl (fun hc => ?_) (fun hc => ?_)
      · replace h := iteT h hc
        refine zz_loc (L1 := []) [] rfl ?_
        exact zBM_drawOnce_72 hG C N hD hd E h
      · replace h := iteF h hc
        refine zz_aload_n C 2 ddM_drawOnce_50 rfl rfl ?_
        refine zz_iload_n C 1 ddM_drawOnce_51 rfl rfl ?_
        refine zz_iload_n C 0 ddM_drawOnce_52 rfl rfl ?_
        obtain ⟨h28, h⟩ := gdN h
        obtain ⟨q27, hq27, h⟩ := bindN h
        refine zz_callV0 (As := [.int q4.1, .int q23.1]) C ddM_drawOnce_53 wd_1467 my_M_canGet mv_M_canGet ⟨_, rfl, rfl⟩ (xM_canGet hG (d - 1) (by omega) hq27) (by omega) h28 rfl rfl (Nat.le_of_ble_eq_true rfl) ?_
        refine zz_if_eq (tgt := 72) C ddM_drawOnce_56 rfl (fun hc => ?_) (fun hc => ?_)
        · replace h := iteT h hc
          refine zz_loc (L1 := []) [] rfl ?_
          exact zBM_drawOnce_72 hG C N hD hd E h
        · replace h := iteF h hc
          refine zz_aload_n C 2 ddM_drawOnce_59 rfl rfl ?_
          refine zz_iload_n C 1 ddM_drawOnce_60 rfl rfl ?_
          refine zz_iload_n C 0 ddM_drawOnce_61 rfl rfl ?_
          obtain ⟨h30, h⟩ := gdN h
          obtain ⟨q29, hq29, h⟩ := bindN h
          refine zz_callV0 (As := [.int q4.1, .int q23.1]) C ddM_drawOnce_62 wd_1483 my_M_getNow mv_M_getNow ⟨_, rfl, rfl⟩ (xM_getNow hG (d - 1) (by omega) hq29) (by omega) h30 rfl rfl (Nat.le_of_ble_eq_true rfl) ?_
          refine zz_istore_n (L1 := [(3, .int q29.1), (2, .int q23.1), (1, .int q4.1), (0, .ref v0)]) C ddM_drawOnce_65 rfl N (by decide) rfl ?_
          refine zz_aload_n C 3 ddM_drawOnce_66 rfl rfl ?_
          refine zz_iload_n C 0 ddM_drawOnce_67 rfl rfl ?_
          refine zz_iload_n C 2 ddM_drawOnce_68 rfl rfl ?_
          obtain ⟨h32, h⟩ := gdN h
          obtain ⟨q31, hq31, h⟩ := bindN h
          refine zz_callV0 (As := [.int q29.1, .int q4.1]) C ddM_drawOnce_69 wd_1555 my_M_note mv_M_note ⟨_, rfl, rfl⟩ (xM_note hG (d - 1) (by omega) hq31) (by omega) h32 rfl rfl (Nat.le_of_ble_eq_true rfl) ?_
          refine zz_loc (L1 := []) [] rfl ?_
          exact zBM_drawOnce_72 hG C N hD hd E h
theorem ddM_years_0 : decode cM_years 0 = .ok (.aload_n 0, 1) := by decide +kernel
theorem ddM_years_1 : decode cM_years 1 = .ok (.invokevirtual 160, 3) := by decide +kernel
theorem ddM_years_4 : decode cM_years 4 = .ok (.ifCond .eq 13, 3) := by decide +kernel
theorem ddM_years_7 : decode cM_years 7 = .ok (.iload_n 1, 1) := by decide +kernel
theorem ddM_years_8 : decode cM_years 8 = .ok (.iconst 1, 1) := by decide +kernel
theorem ddM_years_9 : decode cM_years 9 = .ok (.bipush 40, 2) := by decide +kernel
theorem ddM_years_11 : decode cM_years 11 = .ok (.invokestatic 75, 3) := by decide +kernel
theorem ddM_years_14 : decode cM_years 14 = .ok (.ifCond .ne 5, 3) := by decide +kernel
theorem ddM_years_17 : decode cM_years 17 = .ok (.iconst (-1), 1) := by decide +kernel
theorem ddM_years_18 : decode cM_years 18 = .ok (.ireturn, 1) := by decide +kernel
theorem ddM_years_19 : decode cM_years 19 = .ok (.aload_n 0, 1) := by decide +kernel
theorem ddM_years_20 : decode cM_years 20 = .ok (.lload_n 2, 1) := by decide +kernel
theorem ddM_years_21 : decode cM_years 21 = .ok (.putfield 327, 3) := by decide +kernel
theorem ddM_years_24 : decode cM_years 24 = .ok (.iconst 0, 1) := by decide +kernel
theorem ddM_years_25 : decode cM_years 25 = .ok (.istore 4, 2) := by decide +kernel
theorem ddM_years_27 : decode cM_years 27 = .ok (.iload 4, 2) := by decide +kernel
theorem ddM_years_29 : decode cM_years 29 = .ok (.iload_n 1, 1) := by decide +kernel
theorem ddM_years_30 : decode cM_years 30 = .ok (.if_icmp .ge 17, 3) := by decide +kernel
theorem ddM_years_33 : decode cM_years 33 = .ok (.aload_n 0, 1) := by decide +kernel
theorem ddM_years_34 : decode cM_years 34 = .ok (.invokevirtual 318, 3) := by decide +kernel
theorem ddM_years_37 : decode cM_years 37 = .ok (.aload_n 0, 1) := by decide +kernel
theorem ddM_years_38 : decode cM_years 38 = .ok (.invokevirtual 344, 3) := by decide +kernel
theorem ddM_years_41 : decode cM_years 41 = .ok (.iinc 4 1, 3) := by decide +kernel
theorem ddM_years_44 : decode cM_years 44 = .ok (.goto (-17), 3) := by decide +kernel
theorem ddM_years_47 : decode cM_years 47 = .ok (.aload_n 0, 1) := by decide +kernel
theorem ddM_years_48 : decode cM_years 48 = .ok (.invokevirtual 338, 3) := by decide +kernel
theorem ddM_years_51 : decode cM_years 51 = .ok (.ireturn, 1) := by decide +kernel
set_option maxHeartbeats 2000000 in
theorem zBM_years_27 {G : GXM} {X : CxM} (hG : GokM G) (C : CoM G X cM_years "HomeFreedModel") (N : mLM X = 5) {d : Nat} (hD : dpM X = d) (hd : 9 ≤ d) {v0 : Nat} {v1 : Int32} {K : Nat → Int32 → Int32 → Mem → Option ((Int32 × Mem))} {q : (Int32 × Mem)} (hK : ∀ (v4 : Int32) (M : Mem), K v0 v1 v4 M = some q → ZM G X 27 [(0, .ref v0), (1, .int v1), (4, .int v4)] [] M 0 0) (hr : ∀ r : Int32 × Mem, q =  r → EnM G X (some .int) (some (.int r.1)) r.2 0 0) {v4 : Int32} {M : Mem} (h : BM_years_27 K v0 v1 v4 M = some q) : ZM G X 27 [(0, .ref v0), (1, .int v1), (4, .int v4)] [] M 0 0 := by
  unfold BM_years_27 at h
  refine zz_iload C 2 ddM_years_27 rfl ?_
  refine zz_iload_n C 1 ddM_years_29 rfl rfl ?_
  refine zz_icmp_ge (tgt := 47) C ddM_years_30 rfl (fun hc => ?_) (fun hc => ?_)
  · replace h := iteT h hc
    refine zz_aload_n C 0 ddM_years_47 rfl rfl ?_
    obtain ⟨h2, h⟩ := gdN h
    obtain ⟨q1, hq1, h⟩ := bindN h
    refine zz_callV0 (As := []) C ddM_years_48 wd_1633 my_M_heldMany mv_M_heldMany ⟨_, rfl, rfl⟩ (xM_heldMany hG (d - 1) (by omega) hq1) (by omega) h2 rfl rfl (Nat.le_of_ble_eq_true rfl) ?_
    exact zz_iret C (hr _ (Option.some.inj h).symm) ddM_years_51
  · replace h := iteF h hc
    refine zz_aload_n C 0 ddM_years_33 rfl rfl ?_
    obtain ⟨h4, h⟩ := gdN h
    obtain ⟨q3, hq3, h⟩ := bindN h
    refine zz_callV0 (As := []) C ddM_years_34 wd_1479 my_M_keep mv_M_keep ⟨_, rfl, rfl⟩ (xM_keep hG (d - 1) (by omega) hq3) (by omega) h4 rfl rfl (Nat.le_of_ble_eq_true rfl) ?_
    refine zz_aload_n C 0 ddM_years_37 rfl rfl ?_
    obtain ⟨h6, h⟩ := gdN h
    obtain ⟨q5, hq5, h⟩ := bindN h
    refine zz_callV0 (As := []) C ddM_years_38 wd_1623 my_M_drawOnce mv_M_drawOnce ⟨_, rfl, rfl⟩ (xM_drawOnce hG (d - 1) (by omega) hq5) (by omega) h6 rfl rfl (Nat.le_of_ble_eq_true rfl) ?_
    refine zz_iinc (v := v4 + 1) (L1 := [(4, .int (v4 + 1)), (0, .ref v0), (1, .int v1)]) C 2 ddM_years_41 rfl rfl N (by decide) rfl ?_
    refine zz_goto (tgt := 27) C ddM_years_44 rfl ?_
    refine zz_loc (L1 := [(0, .ref v0), (1, .int v1), (4, .int (v4 + 1))]) [1, 2, 0] rfl ?_
    exact hK _ _ h
set_option maxHeartbeats 2000000 in
theorem zLM_years_27 {G : GXM} {X : CxM} (hG : GokM G) (C : CoM G X cM_years "HomeFreedModel") (N : mLM X = 5) {d : Nat} (hD : dpM X = d) (hd : 9 ≤ d) {v0 : Nat} {v1 : Int32} {q : (Int32 × Mem)} : ∀ (f : Nat) (v4 : Int32) (M : Mem), LM_years_27 f v0 v1 v4 M = some q → (hr : ∀ r : Int32 × Mem, q =  r → EnM G X (some .int) (some (.int r.1)) r.2 0 0) → ZM G X 27 [(0, .ref v0), (1, .int v1), (4, .int v4)] [] M 0 0 := by
  intro f
  induction f with
  | zero => intro v4 M h; cases h
  | succ f ih =>
    intro v4 M h hr
    exact zBM_years_27 hG C N hD hd (K := LM_years_27 f) (q := q) (fun v4 M h => ih v4 M h hr) hr h
set_option maxHeartbeats 2000000 in
theorem zBM_years_17 {G : GXM} {X : CxM} (hG : GokM G) (C : CoM G X cM_years "HomeFreedModel") (N : mLM X = 5) {d : Nat} (hD : dpM X = d) (hd : 9 ≤ d)  {q : Int32 × Mem} (E : EnM G X (some .int) (some (.int q.1)) q.2 0 0) {M : Mem} (h : BM_years_17 M = some q) : ZM G X 17 [] [] M 0 0 := by
  unfold BM_years_17 at h
  refine zz_iconst (v := (-1)) C ddM_years_17 (by decide) ?_
  obtain rfl := Option.some.inj h
  exact zz_iret C E ddM_years_18
set_option maxHeartbeats 2000000 in
theorem xM_years {G : GXM} {l : Launch} (hG : GokM G) (d : Nat) (hd : 9 ≤ d) {v0 : Nat} {v1 : Int32} {v2 : Int64} {M : Mem} {q : Int32 × Mem} (h : fM_years v0 v1 v2 M = some q) : ExM G l d 0 0 yM_years cM_years 5 (some .int) [.ref v0, .int v1, .long v2] M (some (.int q.1)) q.2 := by
  refine ex_of hG (by decide) (Nat.le_of_ble_eq_true rfl) ?_
  intro X hl C E N hD hn
  show ZM G X 0 [(0, .ref v0), (1, .int v1), (2, .long v2)] [] M 0 0
  unfold fM_years at h
  refine zz_aload_n C 0 ddM_years_0 rfl rfl ?_
  obtain ⟨h2, h⟩ := gdN h
  obtain ⟨q1, hq1, h⟩ := bindN h
  refine zz_callV0 (As := []) C ddM_years_1 wd_1362 my_M_isArena mv_M_isArena ⟨_, rfl, rfl⟩ (xM_isArena hG (d - 1) (by omega) hq1) (by omega) h2 rfl rfl (Nat.le_of_ble_eq_true rfl) ?_
  refine zz_if_eq (tgt := 17) C ddM_years_4 rfl (fun hc => ?_) (fun hc => ?_)
  · replace h := iteT h hc
    refine zz_loc (L1 := []) [] rfl ?_
    exact zBM_years_17 hG C N hD hd E h
  · replace h := iteF h hc
    refine zz_iload_n C 1 ddM_years_7 rfl rfl ?_
    refine zz_iconst (v := 1) C ddM_years_8 (by decide) ?_
    refine zz_bipush (v := 40) C ddM_years_9 (by decide) ?_
    obtain ⟨q3, hq3, h⟩ := bindN h
    refine zz_callS0 (As := [.int v1, .int 1, .int 40]) C ddM_years_11 wd_1289 my_M_in mv_M_in (xM_in hG (d - 1) (by omega) hq3) (by omega) rfl rfl (Nat.le_of_ble_eq_true rfl) ?_
    refine zz_if_ne (tgt := 19) C ddM_years_14 rfl (fun hc => ?_) (fun hc => ?_)
    · replace h := iteF h hc
      refine zz_aload_n C 0 ddM_years_19 rfl rfl ?_
      refine zz_lload_n C 2 ddM_years_20 rfl rfl ?_
      obtain ⟨h4, h⟩ := gdN h
      refine zz_putl C ddM_years_21 fl_M_327 rfl rfl rfl h4 ?_
      refine zz_iconst (v := 0) C ddM_years_24 (by decide) ?_
      refine zz_istore (L1 := [(4, .int 0), (0, .ref v0), (1, .int v1), (2, .long v2)]) C ddM_years_25 N (by decide) rfl ?_
      refine zz_loc (L1 := [(0, .ref v0), (1, .int v1), (4, .int 0)]) [1, 2, 0] rfl ?_
      obtain ⟨q5, hq5, h⟩ := bindN h
      refine zLM_years_27 hG C N hD hd 1000000 _ _ hq5 ?_
      · intro r6 eq5; subst eq5
        obtain rfl := Option.some.inj h
        exact E
    · replace h := iteT h hc
      refine zz_loc (L1 := []) [] rfl ?_
      exact zBM_years_17 hG C N hD hd E h
theorem ddM_status_0 : decode cM_status 0 = .ok (.iload_n 1, 1) := by decide +kernel
theorem ddM_status_1 : decode cM_status 1 = .ok (.iconst 0, 1) := by decide +kernel
theorem ddM_status_2 : decode cM_status 2 = .ok (.iconst 3, 1) := by decide +kernel
theorem ddM_status_3 : decode cM_status 3 = .ok (.invokestatic 75, 3) := by decide +kernel
theorem ddM_status_6 : decode cM_status 6 = .ok (.ifCond .eq 12, 3) := by decide +kernel
theorem ddM_status_9 : decode cM_status 9 = .ok (.aload_n 0, 1) := by decide +kernel
theorem ddM_status_10 : decode cM_status 10 = .ok (.getfield 34, 3) := by decide +kernel
theorem ddM_status_13 : decode cM_status 13 = .ok (.iload_n 1, 1) := by decide +kernel
theorem ddM_status_14 : decode cM_status 14 = .ok (.iaload, 1) := by decide +kernel
theorem ddM_status_15 : decode cM_status 15 = .ok (.goto 4, 3) := by decide +kernel
theorem ddM_status_18 : decode cM_status 18 = .ok (.iconst (-1), 1) := by decide +kernel
theorem ddM_status_19 : decode cM_status 19 = .ok (.ireturn, 1) := by decide +kernel
set_option maxHeartbeats 2000000 in
theorem zBM_status_19 {G : GXM} {X : CxM} (hG : GokM G) (C : CoM G X cM_status "HomeFreedModel") (N : mLM X = 2) {d : Nat} (hD : dpM X = d) (hd : 1 ≤ d)  {q : Int32 × Mem} (E : EnM G X (some .int) (some (.int q.1)) q.2 0 0) {w0 : Int32} {M : Mem} (h : BM_status_19 w0 M = some q) : ZM G X 19 [] [.int w0] M 0 0 := by
  unfold BM_status_19 at h
  obtain rfl := Option.some.inj h
  exact zz_iret C E ddM_status_19
set_option maxHeartbeats 2000000 in
theorem xM_status {G : GXM} {l : Launch} (hG : GokM G) (d : Nat) (hd : 1 ≤ d) {v0 : Nat} {v1 : Int32} {M : Mem} {q : Int32 × Mem} (h : fM_status v0 v1 M = some q) : ExM G l d 0 0 yM_status cM_status 2 (some .int) [.ref v0, .int v1] M (some (.int q.1)) q.2 := by
  refine ex_of hG (by decide) (Nat.le_of_ble_eq_true rfl) ?_
  intro X hl C E N hD hn
  show ZM G X 0 [(0, .ref v0), (1, .int v1)] [] M 0 0
  unfold fM_status at h
  refine zz_iload_n C 1 ddM_status_0 rfl rfl ?_
  refine zz_iconst (v := 0) C ddM_status_1 (by decide) ?_
  refine zz_iconst (v := 3) C ddM_status_2 (by decide) ?_
  obtain ⟨q1, hq1, h⟩ := bindN h
  refine zz_callS0 (As := [.int v1, .int 0, .int 3]) C ddM_status_3 wd_1289 my_M_in mv_M_in (xM_in hG (d - 1) (by omega) hq1) (by omega) rfl rfl (Nat.le_of_ble_eq_true rfl) ?_
  refine zz_if_eq (tgt := 18) C ddM_status_6 rfl (fun hc => ?_) (fun hc => ?_)
  · replace h := iteT h hc
    refine zz_iconst (v := (-1)) C ddM_status_18 (by decide) ?_
    refine zz_loc (L1 := []) [] rfl ?_
    exact zBM_status_19 hG C N hD hd E h
  · replace h := iteF h hc
    refine zz_aload_n C 0 ddM_status_9 rfl rfl ?_
    obtain ⟨h2, h⟩ := gdN h
    obtain ⟨h3, h⟩ := gdN h
    refine zz_getr C ddM_status_10 fl_M_34 rfl h2 (of_decide_eq_true h3) ?_
    refine zz_iload_n C 1 ddM_status_13 rfl rfl ?_
    obtain ⟨h4, h⟩ := gdN h
    refine zz_iaload C ddM_status_14 h4 ?_
    refine zz_goto (tgt := 19) C ddM_status_15 rfl ?_
    refine zz_loc (L1 := []) [] rfl ?_
    exact zBM_status_19 hG C N hD hd E h
theorem ddM_undo_0 : decode cM_undo 0 = .ok (.aload_n 0, 1) := by decide +kernel
theorem ddM_undo_1 : decode cM_undo 1 = .ok (.getfield 147, 3) := by decide +kernel
theorem ddM_undo_4 : decode cM_undo 4 = .ok (.ifCond .ne 5, 3) := by decide +kernel
theorem ddM_undo_7 : decode cM_undo 7 = .ok (.iconst (-1), 1) := by decide +kernel
theorem ddM_undo_8 : decode cM_undo 8 = .ok (.ireturn, 1) := by decide +kernel
theorem ddM_undo_9 : decode cM_undo 9 = .ok (.aload_n 0, 1) := by decide +kernel
theorem ddM_undo_10 : decode cM_undo 10 = .ok (.dup, 1) := by decide +kernel
theorem ddM_undo_11 : decode cM_undo 11 = .ok (.getfield 147, 3) := by decide +kernel
theorem ddM_undo_14 : decode cM_undo 14 = .ok (.iconst 1, 1) := by decide +kernel
theorem ddM_undo_15 : decode cM_undo 15 = .ok (.isub, 1) := by decide +kernel
theorem ddM_undo_16 : decode cM_undo 16 = .ok (.putfield 147, 3) := by decide +kernel
theorem ddM_undo_19 : decode cM_undo 19 = .ok (.iconst 0, 1) := by decide +kernel
theorem ddM_undo_20 : decode cM_undo 20 = .ok (.istore_n 1, 1) := by decide +kernel
theorem ddM_undo_21 : decode cM_undo 21 = .ok (.iload_n 1, 1) := by decide +kernel
theorem ddM_undo_22 : decode cM_undo 22 = .ok (.sipush 3893, 3) := by decide +kernel
theorem ddM_undo_25 : decode cM_undo 25 = .ok (.if_icmp .ge 30, 3) := by decide +kernel
theorem ddM_undo_28 : decode cM_undo 28 = .ok (.aload_n 0, 1) := by decide +kernel
theorem ddM_undo_29 : decode cM_undo 29 = .ok (.getfield 31, 3) := by decide +kernel
theorem ddM_undo_32 : decode cM_undo 32 = .ok (.iload_n 1, 1) := by decide +kernel
theorem ddM_undo_33 : decode cM_undo 33 = .ok (.aload_n 0, 1) := by decide +kernel
theorem ddM_undo_34 : decode cM_undo 34 = .ok (.getfield 54, 3) := by decide +kernel
theorem ddM_undo_37 : decode cM_undo 37 = .ok (.sipush 3893, 3) := by decide +kernel
theorem ddM_undo_40 : decode cM_undo 40 = .ok (.aload_n 0, 1) := by decide +kernel
theorem ddM_undo_41 : decode cM_undo 41 = .ok (.getfield 147, 3) := by decide +kernel
theorem ddM_undo_44 : decode cM_undo 44 = .ok (.imul, 1) := by decide +kernel
theorem ddM_undo_45 : decode cM_undo 45 = .ok (.iload_n 1, 1) := by decide +kernel
theorem ddM_undo_46 : decode cM_undo 46 = .ok (.iadd, 1) := by decide +kernel
theorem ddM_undo_47 : decode cM_undo 47 = .ok (.iaload, 1) := by decide +kernel
theorem ddM_undo_48 : decode cM_undo 48 = .ok (.iastore, 1) := by decide +kernel
theorem ddM_undo_49 : decode cM_undo 49 = .ok (.iinc 1 1, 3) := by decide +kernel
theorem ddM_undo_52 : decode cM_undo 52 = .ok (.goto (-31), 3) := by decide +kernel
theorem ddM_undo_55 : decode cM_undo 55 = .ok (.aload_n 0, 1) := by decide +kernel
theorem ddM_undo_56 : decode cM_undo 56 = .ok (.getfield 147, 3) := by decide +kernel
theorem ddM_undo_59 : decode cM_undo 59 = .ok (.ireturn, 1) := by decide +kernel
set_option maxHeartbeats 2000000 in
theorem zBM_undo_21 {G : GXM} {X : CxM} (hG : GokM G) (C : CoM G X cM_undo "HomeFreedModel") (N : mLM X = 2) {d : Nat} (hD : dpM X = d) (hd : 0 ≤ d) {v0 : Nat} {K : Nat → Int32 → Mem → Option ((Int32 × Mem))} {q : (Int32 × Mem)} (hK : ∀ (v1 : Int32) (M : Mem), K v0 v1 M = some q → ZM G X 21 [(0, .ref v0), (1, .int v1)] [] M 0 0) (hr : ∀ r : Int32 × Mem, q =  r → EnM G X (some .int) (some (.int r.1)) r.2 0 0) {v1 : Int32} {M : Mem} (h : BM_undo_21 K v0 v1 M = some q) : ZM G X 21 [(0, .ref v0), (1, .int v1)] [] M 0 0 := by
  unfold BM_undo_21 at h
  refine zz_iload_n C 1 ddM_undo_21 rfl rfl ?_
  refine zz_sipush (v := 3893) C ddM_undo_22 (by decide) ?_
  refine zz_icmp_ge (tgt := 55) C ddM_undo_25 rfl (fun hc => ?_) (fun hc => ?_)
  · replace h := iteT h hc
    refine zz_aload_n C 0 ddM_undo_55 rfl rfl ?_
    obtain ⟨h1, h⟩ := gdN h
    refine zz_geti C ddM_undo_56 fl_M_147 rfl h1 ?_
    exact zz_iret C (hr _ (Option.some.inj h).symm) ddM_undo_59
  · replace h := iteF h hc
    refine zz_aload_n C 0 ddM_undo_28 rfl rfl ?_
    obtain ⟨h2, h⟩ := gdN h
    obtain ⟨h3, h⟩ := gdN h
    refine zz_getr C ddM_undo_29 fl_M_31 rfl h2 (of_decide_eq_true h3) ?_
    refine zz_iload_n C 1 ddM_undo_32 rfl rfl ?_
    refine zz_aload_n C 0 ddM_undo_33 rfl rfl ?_
    obtain ⟨h4, h⟩ := gdN h
    refine zz_getr C ddM_undo_34 fl_M_54 rfl h2 (of_decide_eq_true h4) ?_
    refine zz_sipush (v := 3893) C ddM_undo_37 (by decide) ?_
    refine zz_aload_n C 0 ddM_undo_40 rfl rfl ?_
    refine zz_geti C ddM_undo_41 fl_M_147 rfl h2 ?_
    refine zz_imul C ddM_undo_44 ?_
    refine zz_iload_n C 1 ddM_undo_45 rfl rfl ?_
    refine zz_iadd C ddM_undo_46 ?_
    obtain ⟨h5, h⟩ := gdN h
    refine zz_iaload C ddM_undo_47 h5 ?_
    obtain ⟨h6, h⟩ := gdN h
    refine zz_iastore C ddM_undo_48 h6 ?_
    refine zz_iinc (v := v1 + 1) (L1 := [(1, .int (v1 + 1)), (0, .ref v0)]) C 1 ddM_undo_49 rfl rfl N (by decide) rfl ?_
    refine zz_goto (tgt := 21) C ddM_undo_52 rfl ?_
    refine zz_loc (L1 := [(0, .ref v0), (1, .int (v1 + 1))]) [1, 0] rfl ?_
    exact hK _ _ h
set_option maxHeartbeats 2000000 in
theorem zLM_undo_21 {G : GXM} {X : CxM} (hG : GokM G) (C : CoM G X cM_undo "HomeFreedModel") (N : mLM X = 2) {d : Nat} (hD : dpM X = d) (hd : 0 ≤ d) {v0 : Nat} {q : (Int32 × Mem)} : ∀ (f : Nat) (v1 : Int32) (M : Mem), LM_undo_21 f v0 v1 M = some q → (hr : ∀ r : Int32 × Mem, q =  r → EnM G X (some .int) (some (.int r.1)) r.2 0 0) → ZM G X 21 [(0, .ref v0), (1, .int v1)] [] M 0 0 := by
  intro f
  induction f with
  | zero => intro v1 M h; cases h
  | succ f ih =>
    intro v1 M h hr
    exact zBM_undo_21 hG C N hD hd (K := LM_undo_21 f) (q := q) (fun v1 M h => ih v1 M h hr) hr h
set_option maxHeartbeats 2000000 in
theorem xM_undo {G : GXM} {l : Launch} (hG : GokM G) (d : Nat) (hd : 0 ≤ d) {v0 : Nat} {M : Mem} {q : Int32 × Mem} (h : fM_undo v0 M = some q) : ExM G l d 0 0 yM_undo cM_undo 2 (some .int) [.ref v0] M (some (.int q.1)) q.2 := by
  refine ex_of hG (by decide) (Nat.le_of_ble_eq_true rfl) ?_
  intro X hl C E N hD hn
  show ZM G X 0 [(0, .ref v0)] [] M 0 0
  unfold fM_undo at h
  refine zz_aload_n C 0 ddM_undo_0 rfl rfl ?_
  obtain ⟨h1, h⟩ := gdN h
  refine zz_geti C ddM_undo_1 fl_M_147 rfl h1 ?_
  refine zz_if_ne (tgt := 9) C ddM_undo_4 rfl (fun hc => ?_) (fun hc => ?_)
  · replace h := iteF h hc
    refine zz_aload_n C 0 ddM_undo_9 rfl rfl ?_
    refine zz_dup C ddM_undo_10 rfl ?_
    refine zz_geti C ddM_undo_11 fl_M_147 rfl h1 ?_
    refine zz_iconst (v := 1) C ddM_undo_14 (by decide) ?_
    refine zz_isub C ddM_undo_15 ?_
    refine zz_puti C ddM_undo_16 fl_M_147 rfl rfl rfl h1 ?_
    refine zz_iconst (v := 0) C ddM_undo_19 (by decide) ?_
    refine zz_istore_n (L1 := [(1, .int 0), (0, .ref v0)]) C ddM_undo_20 rfl N (by decide) rfl ?_
    refine zz_loc (L1 := [(0, .ref v0), (1, .int 0)]) [1, 0] rfl ?_
    obtain ⟨q2, hq2, h⟩ := bindN h
    refine zLM_undo_21 hG C N hD hd 1000000 _ _ hq2 ?_
    · intro r3 eq2; subst eq2
      obtain rfl := Option.some.inj h
      exact E
  · replace h := iteT h hc
    refine zz_iconst (v := (-1)) C ddM_undo_7 (by decide) ?_
    obtain rfl := Option.some.inj h
    exact zz_iret C E ddM_undo_8
theorem ddM_log_0 : decode cM_log 0 = .ok (.iload_n 1, 1) := by decide +kernel
theorem ddM_log_1 : decode cM_log 1 = .ok (.iconst 0, 1) := by decide +kernel
theorem ddM_log_2 : decode cM_log 2 = .ok (.aload_n 0, 1) := by decide +kernel
theorem ddM_log_3 : decode cM_log 3 = .ok (.getfield 31, 3) := by decide +kernel
theorem ddM_log_6 : decode cM_log 6 = .ok (.sipush 3712, 3) := by decide +kernel
theorem ddM_log_9 : decode cM_log 9 = .ok (.iaload, 1) := by decide +kernel
theorem ddM_log_10 : decode cM_log 10 = .ok (.iconst 1, 1) := by decide +kernel
theorem ddM_log_11 : decode cM_log 11 = .ok (.isub, 1) := by decide +kernel
theorem ddM_log_12 : decode cM_log 12 = .ok (.invokestatic 75, 3) := by decide +kernel
theorem ddM_log_15 : decode cM_log 15 = .ok (.ifCond .eq 40, 3) := by decide +kernel
theorem ddM_log_18 : decode cM_log 18 = .ok (.iload_n 2, 1) := by decide +kernel
theorem ddM_log_19 : decode cM_log 19 = .ok (.iconst 0, 1) := by decide +kernel
theorem ddM_log_20 : decode cM_log 20 = .ok (.iconst 2, 1) := by decide +kernel
theorem ddM_log_21 : decode cM_log 21 = .ok (.invokestatic 75, 3) := by decide +kernel
theorem ddM_log_24 : decode cM_log 24 = .ok (.ifCond .eq 31, 3) := by decide +kernel
theorem ddM_log_27 : decode cM_log 27 = .ok (.aload_n 0, 1) := by decide +kernel
theorem ddM_log_28 : decode cM_log 28 = .ok (.getfield 31, 3) := by decide +kernel
theorem ddM_log_31 : decode cM_log 31 = .ok (.sipush 3713, 3) := by decide +kernel
theorem ddM_log_34 : decode cM_log 34 = .ok (.iconst 3, 1) := by decide +kernel
theorem ddM_log_35 : decode cM_log 35 = .ok (.aload_n 0, 1) := by decide +kernel
theorem ddM_log_36 : decode cM_log 36 = .ok (.getfield 31, 3) := by decide +kernel
theorem ddM_log_39 : decode cM_log 39 = .ok (.sipush 3712, 3) := by decide +kernel
theorem ddM_log_42 : decode cM_log 42 = .ok (.iaload, 1) := by decide +kernel
theorem ddM_log_43 : decode cM_log 43 = .ok (.iconst 1, 1) := by decide +kernel
theorem ddM_log_44 : decode cM_log 44 = .ok (.isub, 1) := by decide +kernel
theorem ddM_log_45 : decode cM_log 45 = .ok (.iload_n 1, 1) := by decide +kernel
theorem ddM_log_46 : decode cM_log 46 = .ok (.isub, 1) := by decide +kernel
theorem ddM_log_47 : decode cM_log 47 = .ok (.imul, 1) := by decide +kernel
theorem ddM_log_48 : decode cM_log 48 = .ok (.iadd, 1) := by decide +kernel
theorem ddM_log_49 : decode cM_log 49 = .ok (.iload_n 2, 1) := by decide +kernel
theorem ddM_log_50 : decode cM_log 50 = .ok (.iadd, 1) := by decide +kernel
theorem ddM_log_51 : decode cM_log 51 = .ok (.iaload, 1) := by decide +kernel
theorem ddM_log_52 : decode cM_log 52 = .ok (.goto 4, 3) := by decide +kernel
theorem ddM_log_55 : decode cM_log 55 = .ok (.iconst (-1), 1) := by decide +kernel
theorem ddM_log_56 : decode cM_log 56 = .ok (.ireturn, 1) := by decide +kernel
set_option maxHeartbeats 2000000 in
theorem zBM_log_56 {G : GXM} {X : CxM} (hG : GokM G) (C : CoM G X cM_log "HomeFreedModel") (N : mLM X = 3) {d : Nat} (hD : dpM X = d) (hd : 1 ≤ d)  {q : Int32 × Mem} (E : EnM G X (some .int) (some (.int q.1)) q.2 0 0) {w0 : Int32} {M : Mem} (h : BM_log_56 w0 M = some q) : ZM G X 56 [] [.int w0] M 0 0 := by
  unfold BM_log_56 at h
  obtain rfl := Option.some.inj h
  exact zz_iret C E ddM_log_56
set_option maxHeartbeats 2000000 in
theorem zBM_log_55 {G : GXM} {X : CxM} (hG : GokM G) (C : CoM G X cM_log "HomeFreedModel") (N : mLM X = 3) {d : Nat} (hD : dpM X = d) (hd : 1 ≤ d)  {q : Int32 × Mem} (E : EnM G X (some .int) (some (.int q.1)) q.2 0 0) {M : Mem} (h : BM_log_55 M = some q) : ZM G X 55 [] [] M 0 0 := by
  unfold BM_log_55 at h
  refine zz_iconst (v := (-1)) C ddM_log_55 (by decide) ?_
  exact zBM_log_56 hG C N hD hd E h
set_option maxHeartbeats 2000000 in
theorem xM_log {G : GXM} {l : Launch} (hG : GokM G) (d : Nat) (hd : 1 ≤ d) {v0 : Nat} {v1 : Int32} {v2 : Int32} {M : Mem} {q : Int32 × Mem} (h : fM_log v0 v1 v2 M = some q) : ExM G l d 0 0 yM_log cM_log 3 (some .int) [.ref v0, .int v1, .int v2] M (some (.int q.1)) q.2 := by
  refine ex_of hG (by decide) (Nat.le_of_ble_eq_true rfl) ?_
  intro X hl C E N hD hn
  show ZM G X 0 [(0, .ref v0), (1, .int v1), (2, .int v2)] [] M 0 0
  unfold fM_log at h
  refine zz_iload_n C 1 ddM_log_0 rfl rfl ?_
  refine zz_iconst (v := 0) C ddM_log_1 (by decide) ?_
  refine zz_aload_n C 0 ddM_log_2 rfl rfl ?_
  obtain ⟨h1, h⟩ := gdN h
  obtain ⟨h2, h⟩ := gdN h
  refine zz_getr C ddM_log_3 fl_M_31 rfl h1 (of_decide_eq_true h2) ?_
  refine zz_sipush (v := 3712) C ddM_log_6 (by decide) ?_
  obtain ⟨h3, h⟩ := gdN h
  refine zz_iaload C ddM_log_9 h3 ?_
  refine zz_iconst (v := 1) C ddM_log_10 (by decide) ?_
  refine zz_isub C ddM_log_11 ?_
  obtain ⟨q4, hq4, h⟩ := bindN h
  refine zz_callS0 (As := [.int v1, .int 0, .int ((giM M (grM M v0 15) (Int32.toNatClampNeg 3712)) - 1)]) C ddM_log_12 wd_1289 my_M_in mv_M_in (xM_in hG (d - 1) (by omega) hq4) (by omega) rfl rfl (Nat.le_of_ble_eq_true rfl) ?_
  refine zz_if_eq (tgt := 55) C ddM_log_15 rfl (fun hc => ?_) (fun hc => ?_)
  · replace h := iteT h hc
    refine zz_loc (L1 := []) [] rfl ?_
    exact zBM_log_55 hG C N hD hd E h
  · replace h := iteF h hc
    refine zz_iload_n C 2 ddM_log_18 rfl rfl ?_
    refine zz_iconst (v := 0) C ddM_log_19 (by decide) ?_
    refine zz_iconst (v := 2) C ddM_log_20 (by decide) ?_
    obtain ⟨q5, hq5, h⟩ := bindN h
    refine zz_callS0 (As := [.int v2, .int 0, .int 2]) C ddM_log_21 wd_1289 my_M_in mv_M_in (xM_in hG (d - 1) (by omega) hq5) (by omega) rfl rfl (Nat.le_of_ble_eq_true rfl) ?_
    refine zz_if_eq (tgt := 55) C ddM_log_24 rfl (fun hc => ?_) (fun hc => ?_)
    · replace h := iteT h hc
      refine zz_loc (L1 := []) [] rfl ?_
      exact zBM_log_55 hG C N hD hd E h
    · replace h := iteF h hc
      refine zz_aload_n C 0 ddM_log_27 rfl rfl ?_
      obtain ⟨h6, h⟩ := gdN h
      obtain ⟨h7, h⟩ := gdN h
      refine zz_getr C ddM_log_28 fl_M_31 rfl h6 (of_decide_eq_true h7) ?_
      refine zz_sipush (v := 3713) C ddM_log_31 (by decide) ?_
      refine zz_iconst (v := 3) C ddM_log_34 (by decide) ?_
      refine zz_aload_n C 0 ddM_log_35 rfl rfl ?_
      refine zz_getr C ddM_log_36 fl_M_31 rfl h6 (of_decide_eq_true h7) ?_
      refine zz_sipush (v := 3712) C ddM_log_39 (by decide) ?_
      obtain ⟨h8, h⟩ := gdN h
      refine zz_iaload C ddM_log_42 h8 ?_
      refine zz_iconst (v := 1) C ddM_log_43 (by decide) ?_
      refine zz_isub C ddM_log_44 ?_
      refine zz_iload_n C 1 ddM_log_45 rfl rfl ?_
      refine zz_isub C ddM_log_46 ?_
      refine zz_imul C ddM_log_47 ?_
      refine zz_iadd C ddM_log_48 ?_
      refine zz_iload_n C 2 ddM_log_49 rfl rfl ?_
      refine zz_iadd C ddM_log_50 ?_
      obtain ⟨h9, h⟩ := gdN h
      refine zz_iaload C ddM_log_51 h9 ?_
      refine zz_goto (tgt := 56) C ddM_log_52 rfl ?_
      refine zz_loc (L1 := []) [] rfl ?_
      exact zBM_log_56 hG C N hD hd E h
theorem ddM_step_0 : decode cM_step 0 = .ok (.iload_n 1, 1) := by decide +kernel
theorem ddM_step_1 : decode cM_step 1 = .ok (.iconst 0, 1) := by decide +kernel
theorem ddM_step_2 : decode cM_step 2 = .ok (.aload_n 0, 1) := by decide +kernel
theorem ddM_step_3 : decode cM_step 3 = .ok (.getfield 157, 3) := by decide +kernel
theorem ddM_step_6 : decode cM_step 6 = .ok (.iconst 1, 1) := by decide +kernel
theorem ddM_step_7 : decode cM_step 7 = .ok (.isub, 1) := by decide +kernel
theorem ddM_step_8 : decode cM_step 8 = .ok (.invokestatic 75, 3) := by decide +kernel
theorem ddM_step_11 : decode cM_step 11 = .ok (.ifCond .eq 38, 3) := by decide +kernel
theorem ddM_step_14 : decode cM_step 14 = .ok (.iload_n 2, 1) := by decide +kernel
theorem ddM_step_15 : decode cM_step 15 = .ok (.iconst 0, 1) := by decide +kernel
theorem ddM_step_16 : decode cM_step 16 = .ok (.aload_n 0, 1) := by decide +kernel
theorem ddM_step_17 : decode cM_step 17 = .ok (.getfield 28, 3) := by decide +kernel
theorem ddM_step_20 : decode cM_step 20 = .ok (.iload_n 1, 1) := by decide +kernel
theorem ddM_step_21 : decode cM_step 21 = .ok (.iaload, 1) := by decide +kernel
theorem ddM_step_22 : decode cM_step 22 = .ok (.iconst 1, 1) := by decide +kernel
theorem ddM_step_23 : decode cM_step 23 = .ok (.isub, 1) := by decide +kernel
theorem ddM_step_24 : decode cM_step 24 = .ok (.invokestatic 75, 3) := by decide +kernel
theorem ddM_step_27 : decode cM_step 27 = .ok (.ifCond .eq 22, 3) := by decide +kernel
theorem ddM_step_30 : decode cM_step 30 = .ok (.iload_n 3, 1) := by decide +kernel
theorem ddM_step_31 : decode cM_step 31 = .ok (.iconst 0, 1) := by decide +kernel
theorem ddM_step_32 : decode cM_step 32 = .ok (.iconst 2, 1) := by decide +kernel
theorem ddM_step_33 : decode cM_step 33 = .ok (.invokestatic 75, 3) := by decide +kernel
theorem ddM_step_36 : decode cM_step 36 = .ok (.ifCond .eq 13, 3) := by decide +kernel
theorem ddM_step_39 : decode cM_step 39 = .ok (.aload_n 0, 1) := by decide +kernel
theorem ddM_step_40 : decode cM_step 40 = .ok (.iload_n 1, 1) := by decide +kernel
theorem ddM_step_41 : decode cM_step 41 = .ok (.iload_n 2, 1) := by decide +kernel
theorem ddM_step_42 : decode cM_step 42 = .ok (.iload_n 3, 1) := by decide +kernel
theorem ddM_step_43 : decode cM_step 43 = .ok (.invokevirtual 256, 3) := by decide +kernel
theorem ddM_step_46 : decode cM_step 46 = .ok (.goto 6, 3) := by decide +kernel
theorem ddM_step_49 : decode cM_step 49 = .ok (.ldc_w 347, 3) := by decide +kernel
theorem ddM_step_52 : decode cM_step 52 = .ok (.ireturn, 1) := by decide +kernel
set_option maxHeartbeats 2000000 in
theorem zBM_step_52 {G : GXM} {X : CxM} (hG : GokM G) (C : CoM G X cM_step "HomeFreedModel") (N : mLM X = 4) {d : Nat} (hD : dpM X = d) (hd : 1 ≤ d)  {q : Int32 × Mem} (E : EnM G X (some .int) (some (.int q.1)) q.2 0 0) {w0 : Int32} {M : Mem} (h : BM_step_52 w0 M = some q) : ZM G X 52 [] [.int w0] M 0 0 := by
  unfold BM_step_52 at h
  obtain rfl := Option.some.inj h
  exact zz_iret C E ddM_step_52
set_option maxHeartbeats 2000000 in
theorem zBM_step_49 {G : GXM} {X : CxM} (hG : GokM G) (C : CoM G X cM_step "HomeFreedModel") (N : mLM X = 4) {d : Nat} (hD : dpM X = d) (hd : 1 ≤ d)  {q : Int32 × Mem} (E : EnM G X (some .int) (some (.int q.1)) q.2 0 0) {M : Mem} (h : BM_step_49 M = some q) : ZM G X 49 [] [] M 0 0 := by
  unfold BM_step_49 at h
  refine zz_ldcw C ddM_step_49 wd_1657 rfl ?_
  exact zBM_step_52 hG C N hD hd E h
set_option maxHeartbeats 2000000 in
theorem xM_step {G : GXM} {l : Launch} (hG : GokM G) (d : Nat) (hd : 1 ≤ d) {v0 : Nat} {v1 : Int32} {v2 : Int32} {v3 : Int32} {M : Mem} {q : Int32 × Mem} (h : fM_step v0 v1 v2 v3 M = some q) : ExM G l d 0 0 yM_step cM_step 4 (some .int) [.ref v0, .int v1, .int v2, .int v3] M (some (.int q.1)) q.2 := by
  refine ex_of hG (by decide) (Nat.le_of_ble_eq_true rfl) ?_
  intro X hl C E N hD hn
  show ZM G X 0 [(0, .ref v0), (1, .int v1), (2, .int v2), (3, .int v3)] [] M 0 0
  unfold fM_step at h
  refine zz_iload_n C 1 ddM_step_0 rfl rfl ?_
  refine zz_iconst (v := 0) C ddM_step_1 (by decide) ?_
  refine zz_aload_n C 0 ddM_step_2 rfl rfl ?_
  obtain ⟨h1, h⟩ := gdN h
  refine zz_geti C ddM_step_3 fl_M_157 rfl h1 ?_
  refine zz_iconst (v := 1) C ddM_step_6 (by decide) ?_
  refine zz_isub C ddM_step_7 ?_
  obtain ⟨q2, hq2, h⟩ := bindN h
  refine zz_callS0 (As := [.int v1, .int 0, .int ((giM M v0 13) - 1)]) C ddM_step_8 wd_1289 my_M_in mv_M_in (xM_in hG (d - 1) (by omega) hq2) (by omega) rfl rfl (Nat.le_of_ble_eq_true rfl) ?_
  refine zz_if_eq (tgt := 49) C ddM_step_11 rfl (fun hc => ?_) (fun hc => ?_)
  · replace h := iteT h hc
    refine zz_loc (L1 := []) [] rfl ?_
    exact zBM_step_49 hG C N hD hd E h
  · replace h := iteF h hc
    refine zz_iload_n C 2 ddM_step_14 rfl rfl ?_
    refine zz_iconst (v := 0) C ddM_step_15 (by decide) ?_
    refine zz_aload_n C 0 ddM_step_16 rfl rfl ?_
    obtain ⟨h3, h⟩ := gdN h
    obtain ⟨h4, h⟩ := gdN h
    refine zz_getr C ddM_step_17 fl_M_28 rfl h3 (of_decide_eq_true h4) ?_
    refine zz_iload_n C 1 ddM_step_20 rfl rfl ?_
    obtain ⟨h5, h⟩ := gdN h
    refine zz_iaload C ddM_step_21 h5 ?_
    refine zz_iconst (v := 1) C ddM_step_22 (by decide) ?_
    refine zz_isub C ddM_step_23 ?_
    obtain ⟨q6, hq6, h⟩ := bindN h
    refine zz_callS0 (As := [.int v2, .int 0, .int ((giM q2.2 (grM q2.2 v0 12) (Int32.toNatClampNeg v1)) - 1)]) C ddM_step_24 wd_1289 my_M_in mv_M_in (xM_in hG (d - 1) (by omega) hq6) (by omega) rfl rfl (Nat.le_of_ble_eq_true rfl) ?_
    refine zz_if_eq (tgt := 49) C ddM_step_27 rfl (fun hc => ?_) (fun hc => ?_)
    · replace h := iteT h hc
      refine zz_loc (L1 := []) [] rfl ?_
      exact zBM_step_49 hG C N hD hd E h
    · replace h := iteF h hc
      refine zz_iload_n C 3 ddM_step_30 rfl rfl ?_
      refine zz_iconst (v := 0) C ddM_step_31 (by decide) ?_
      refine zz_iconst (v := 2) C ddM_step_32 (by decide) ?_
      obtain ⟨q7, hq7, h⟩ := bindN h
      refine zz_callS0 (As := [.int v3, .int 0, .int 2]) C ddM_step_33 wd_1289 my_M_in mv_M_in (xM_in hG (d - 1) (by omega) hq7) (by omega) rfl rfl (Nat.le_of_ble_eq_true rfl) ?_
      refine zz_if_eq (tgt := 49) C ddM_step_36 rfl (fun hc => ?_) (fun hc => ?_)
      · replace h := iteT h hc
        refine zz_loc (L1 := []) [] rfl ?_
        exact zBM_step_49 hG C N hD hd E h
      · replace h := iteF h hc
        refine zz_aload_n C 0 ddM_step_39 rfl rfl ?_
        refine zz_iload_n C 1 ddM_step_40 rfl rfl ?_
        refine zz_iload_n C 2 ddM_step_41 rfl rfl ?_
        refine zz_iload_n C 3 ddM_step_42 rfl rfl ?_
        obtain ⟨h9, h⟩ := gdN h
        obtain ⟨q8, hq8, h⟩ := bindN h
        refine zz_callV0 (As := [.int v1, .int v2, .int v3]) C ddM_step_43 wd_1599 my_M_stepOf mv_M_stepOf ⟨_, rfl, rfl⟩ (xM_stepOf hG (d - 1) (by omega) hq8) (by omega) h9 rfl rfl (Nat.le_of_ble_eq_true rfl) ?_
        refine zz_goto (tgt := 52) C ddM_step_46 rfl ?_
        refine zz_loc (L1 := []) [] rfl ?_
        exact zBM_step_52 hG C N hD hd E h
theorem ddM_worst_0 : decode cM_worst 0 = .ok (.iconst 1, 1) := by decide +kernel
theorem ddM_worst_1 : decode cM_worst 1 = .ok (.istore_n 1, 1) := by decide +kernel
theorem ddM_worst_2 : decode cM_worst 2 = .ok (.iconst 2, 1) := by decide +kernel
theorem ddM_worst_3 : decode cM_worst 3 = .ok (.istore_n 2, 1) := by decide +kernel
theorem ddM_worst_4 : decode cM_worst 4 = .ok (.iload_n 2, 1) := by decide +kernel
theorem ddM_worst_5 : decode cM_worst 5 = .ok (.aload_n 0, 1) := by decide +kernel
theorem ddM_worst_6 : decode cM_worst 6 = .ok (.getfield 22, 3) := by decide +kernel
theorem ddM_worst_9 : decode cM_worst 9 = .ok (.aload_n 0, 1) := by decide +kernel
theorem ddM_worst_10 : decode cM_worst 10 = .ok (.getfield 144, 3) := by decide +kernel
theorem ddM_worst_13 : decode cM_worst 13 = .ok (.iconst 1, 1) := by decide +kernel
theorem ddM_worst_14 : decode cM_worst 14 = .ok (.isub, 1) := by decide +kernel
theorem ddM_worst_15 : decode cM_worst 15 = .ok (.iaload, 1) := by decide +kernel
theorem ddM_worst_16 : decode cM_worst 16 = .ok (.if_icmp .gt 53, 3) := by decide +kernel
theorem ddM_worst_19 : decode cM_worst 19 = .ok (.aload_n 0, 1) := by decide +kernel
theorem ddM_worst_20 : decode cM_worst 20 = .ok (.getfield 22, 3) := by decide +kernel
theorem ddM_worst_23 : decode cM_worst 23 = .ok (.aload_n 0, 1) := by decide +kernel
theorem ddM_worst_24 : decode cM_worst 24 = .ok (.iload_n 2, 1) := by decide +kernel
theorem ddM_worst_25 : decode cM_worst 25 = .ok (.invokevirtual 263, 3) := by decide +kernel
theorem ddM_worst_28 : decode cM_worst 28 = .ok (.iaload, 1) := by decide +kernel
theorem ddM_worst_29 : decode cM_worst 29 = .ok (.istore_n 3, 1) := by decide +kernel
theorem ddM_worst_30 : decode cM_worst 30 = .ok (.aload_n 0, 1) := by decide +kernel
theorem ddM_worst_31 : decode cM_worst 31 = .ok (.getfield 22, 3) := by decide +kernel
theorem ddM_worst_34 : decode cM_worst 34 = .ok (.aload_n 0, 1) := by decide +kernel
theorem ddM_worst_35 : decode cM_worst 35 = .ok (.iload_n 1, 1) := by decide +kernel
theorem ddM_worst_36 : decode cM_worst 36 = .ok (.invokevirtual 263, 3) := by decide +kernel
theorem ddM_worst_39 : decode cM_worst 39 = .ok (.iaload, 1) := by decide +kernel
theorem ddM_worst_40 : decode cM_worst 40 = .ok (.istore 4, 2) := by decide +kernel
theorem ddM_worst_42 : decode cM_worst 42 = .ok (.iload_n 3, 1) := by decide +kernel
theorem ddM_worst_43 : decode cM_worst 43 = .ok (.iload_n 2, 1) := by decide +kernel
theorem ddM_worst_44 : decode cM_worst 44 = .ok (.isub, 1) := by decide +kernel
theorem ddM_worst_45 : decode cM_worst 45 = .ok (.iload 4, 2) := by decide +kernel
theorem ddM_worst_47 : decode cM_worst 47 = .ok (.imul, 1) := by decide +kernel
theorem ddM_worst_48 : decode cM_worst 48 = .ok (.iload 4, 2) := by decide +kernel
theorem ddM_worst_50 : decode cM_worst 50 = .ok (.iload_n 1, 1) := by decide +kernel
theorem ddM_worst_51 : decode cM_worst 51 = .ok (.isub, 1) := by decide +kernel
theorem ddM_worst_52 : decode cM_worst 52 = .ok (.iload_n 3, 1) := by decide +kernel
theorem ddM_worst_53 : decode cM_worst 53 = .ok (.imul, 1) := by decide +kernel
theorem ddM_worst_54 : decode cM_worst 54 = .ok (.if_icmp .le 7, 3) := by decide +kernel
theorem ddM_worst_57 : decode cM_worst 57 = .ok (.iload_n 2, 1) := by decide +kernel
theorem ddM_worst_58 : decode cM_worst 58 = .ok (.goto 4, 3) := by decide +kernel
theorem ddM_worst_61 : decode cM_worst 61 = .ok (.iload_n 1, 1) := by decide +kernel
theorem ddM_worst_62 : decode cM_worst 62 = .ok (.istore_n 1, 1) := by decide +kernel
theorem ddM_worst_63 : decode cM_worst 63 = .ok (.iinc 2 1, 3) := by decide +kernel
theorem ddM_worst_66 : decode cM_worst 66 = .ok (.goto (-62), 3) := by decide +kernel
theorem ddM_worst_69 : decode cM_worst 69 = .ok (.iload_n 1, 1) := by decide +kernel
theorem ddM_worst_70 : decode cM_worst 70 = .ok (.ireturn, 1) := by decide +kernel
set_option maxHeartbeats 2000000 in
theorem zBM_worst_62 {G : GXM} {X : CxM} (hG : GokM G) (C : CoM G X cM_worst "HomeFreedModel") (N : mLM X = 5) {d : Nat} (hD : dpM X = d) (hd : 1 ≤ d) {v0 : Nat} {K : Nat → Int32 → Int32 → Mem → Option ((Int32 × Mem))} {q : (Int32 × Mem)} (hK : ∀ (v1 : Int32) (v2 : Int32) (M : Mem), K v0 v1 v2 M = some q → ZM G X 4 [(0, .ref v0), (1, .int v1), (2, .int v2)] [] M 0 0) (hr : ∀ r : Int32 × Mem, q =  r → EnM G X (some .int) (some (.int r.1)) r.2 0 0) {v2 : Int32} {w0 : Int32} {M : Mem} (h : BM_worst_62 K v0 v2 w0 M = some q) : ZM G X 62 [(0, .ref v0), (2, .int v2)] [.int w0] M 0 0 := by
  unfold BM_worst_62 at h
  refine zz_istore_n (L1 := [(1, .int w0), (0, .ref v0), (2, .int v2)]) C ddM_worst_62 rfl N (by decide) rfl ?_
  refine zz_iinc (v := v2 + 1) (L1 := [(2, .int (v2 + 1)), (1, .int w0), (0, .ref v0)]) C 2 ddM_worst_63 rfl rfl N (by decide) rfl ?_
  refine zz_goto (tgt := 4) C ddM_worst_66 rfl ?_
  refine zz_loc (L1 := [(0, .ref v0), (1, .int w0), (2, .int (v2 + 1))]) [2, 1, 0] rfl ?_
  exact hK _ _ _ h
set_option maxHeartbeats 2000000 in
theorem zBM_worst_4 {G : GXM} {X : CxM} (hG : GokM G) (C : CoM G X cM_worst "HomeFreedModel") (N : mLM X = 5) {d : Nat} (hD : dpM X = d) (hd : 1 ≤ d) {v0 : Nat} {K : Nat → Int32 → Int32 → Mem → Option ((Int32 × Mem))} {q : (Int32 × Mem)} (hK : ∀ (v1 : Int32) (v2 : Int32) (M : Mem), K v0 v1 v2 M = some q → ZM G X 4 [(0, .ref v0), (1, .int v1), (2, .int v2)] [] M 0 0) (hr : ∀ r : Int32 × Mem, q =  r → EnM G X (some .int) (some (.int r.1)) r.2 0 0) {v1 : Int32} {v2 : Int32} {M : Mem} (h : BM_worst_4 K v0 v1 v2 M = some q) : ZM G X 4 [(0, .ref v0), (1, .int v1), (2, .int v2)] [] M 0 0 := by
  unfold BM_worst_4 at h
  refine zz_iload_n C 2 ddM_worst_4 rfl rfl ?_
  refine zz_aload_n C 0 ddM_worst_5 rfl rfl ?_
  obtain ⟨h1, h⟩ := gdN h
  obtain ⟨h2, h⟩ := gdN h
  refine zz_getr C ddM_worst_6 fl_M_22 rfl h1 (of_decide_eq_true h2) ?_
  refine zz_aload_n C 0 ddM_worst_9 rfl rfl ?_
  refine zz_geti C ddM_worst_10 fl_M_144 rfl h1 ?_
  refine zz_iconst (v := 1) C ddM_worst_13 (by decide) ?_
  refine zz_isub C ddM_worst_14 ?_
  obtain ⟨h3, h⟩ := gdN h
  refine zz_iaload C ddM_worst_15 h3 ?_
  refine zz_icmp_gt (tgt := 69) C ddM_worst_16 rfl (fun hc => ?_) (fun hc => ?_)
  · replace h := iteT h hc
    refine zz_iload_n C 1 ddM_worst_69 rfl rfl ?_
    exact zz_iret C (hr _ (Option.some.inj h).symm) ddM_worst_70
  · replace h := iteF h hc
    refine zz_aload_n C 0 ddM_worst_19 rfl rfl ?_
    refine zz_getr C ddM_worst_20 fl_M_22 rfl h1 (of_decide_eq_true h2) ?_
    refine zz_aload_n C 0 ddM_worst_23 rfl rfl ?_
    refine zz_iload_n C 2 ddM_worst_24 rfl rfl ?_
    obtain ⟨q4, hq4, h⟩ := bindN h
    refine zz_callV0 (As := [.int v2]) C ddM_worst_25 wd_1459 my_M_classFor mv_M_classFor ⟨_, rfl, rfl⟩ (xM_classFor hG (d - 1) (by omega) hq4) (by omega) h1 rfl rfl (Nat.le_of_ble_eq_true rfl) ?_
    obtain ⟨h5, h⟩ := gdN h
    refine zz_iaload C ddM_worst_28 h5 ?_
    refine zz_istore_n (L1 := [(3, .int (giM q4.2 (grM M v0 9) (Int32.toNatClampNeg q4.1))), (0, .ref v0), (1, .int v1), (2, .int v2)]) C ddM_worst_29 rfl N (by decide) rfl ?_
    refine zz_aload_n C 1 ddM_worst_30 rfl rfl ?_
    obtain ⟨h6, h⟩ := gdN h
    obtain ⟨h7, h⟩ := gdN h
    refine zz_getr C ddM_worst_31 fl_M_22 rfl h6 (of_decide_eq_true h7) ?_
    refine zz_aload_n C 1 ddM_worst_34 rfl rfl ?_
    refine zz_iload_n C 2 ddM_worst_35 rfl rfl ?_
    obtain ⟨q8, hq8, h⟩ := bindN h
    refine zz_callV0 (As := [.int v1]) C ddM_worst_36 wd_1459 my_M_classFor mv_M_classFor ⟨_, rfl, rfl⟩ (xM_classFor hG (d - 1) (by omega) hq8) (by omega) h6 rfl rfl (Nat.le_of_ble_eq_true rfl) ?_
    obtain ⟨h9, h⟩ := gdN h
    refine zz_iaload C ddM_worst_39 h9 ?_
    refine zz_istore (L1 := [(4, .int (giM q8.2 (grM q4.2 v0 9) (Int32.toNatClampNeg q8.1))), (3, .int (giM q4.2 (grM M v0 9) (Int32.toNatClampNeg q4.1))), (0, .ref v0), (1, .int v1), (2, .int v2)]) C ddM_worst_40 N (by decide) rfl ?_
    refine zz_iload_n C 1 ddM_worst_42 rfl rfl ?_
    refine zz_iload_n C 4 ddM_worst_43 rfl rfl ?_
    refine zz_isub C ddM_worst_44 ?_
    refine zz_iload C 0 ddM_worst_45 rfl ?_
    refine zz_imul C ddM_worst_47 ?_
    refine zz_iload C 0 ddM_worst_48 rfl ?_
    refine zz_iload_n C 3 ddM_worst_50 rfl rfl ?_
    refine zz_isub C ddM_worst_51 ?_
    refine zz_iload_n C 1 ddM_worst_52 rfl rfl ?_
    refine zz_imul C ddM_worst_53 ?_
    refine zz_icmp_le (tgt := 61) C ddM_worst_54 rfl (fun hc => ?_) (fun hc => ?_)
    · replace h := iteT h hc
      refine zz_iload_n C 3 ddM_worst_61 rfl rfl ?_
      refine zz_loc (L1 := [(0, .ref v0), (2, .int v2)]) [2, 4] rfl ?_
      exact zBM_worst_62 hG C N hD hd hK hr h
    · replace h := iteF h hc
      refine zz_iload_n C 4 ddM_worst_57 rfl rfl ?_
      refine zz_goto (tgt := 62) C ddM_worst_58 rfl ?_
      refine zz_loc (L1 := [(0, .ref v0), (2, .int v2)]) [2, 4] rfl ?_
      exact zBM_worst_62 hG C N hD hd hK hr h
set_option maxHeartbeats 2000000 in
theorem zLM_worst_4 {G : GXM} {X : CxM} (hG : GokM G) (C : CoM G X cM_worst "HomeFreedModel") (N : mLM X = 5) {d : Nat} (hD : dpM X = d) (hd : 1 ≤ d) {v0 : Nat} {q : (Int32 × Mem)} : ∀ (f : Nat) (v1 : Int32) (v2 : Int32) (M : Mem), LM_worst_4 f v0 v1 v2 M = some q → (hr : ∀ r : Int32 × Mem, q =  r → EnM G X (some .int) (some (.int r.1)) r.2 0 0) → ZM G X 4 [(0, .ref v0), (1, .int v1), (2, .int v2)] [] M 0 0 := by
  intro f
  induction f with
  | zero => intro v1 v2 M h; cases h
  | succ f ih =>
    intro v1 v2 M h hr
    exact zBM_worst_4 hG C N hD hd (K := LM_worst_4 f) (q := q) (fun v1 v2 M h => ih v1 v2 M h hr) hr h
set_option maxHeartbeats 2000000 in
theorem xM_worst {G : GXM} {l : Launch} (hG : GokM G) (d : Nat) (hd : 1 ≤ d) {v0 : Nat} {M : Mem} {q : Int32 × Mem} (h : fM_worst v0 M = some q) : ExM G l d 0 0 yM_worst cM_worst 5 (some .int) [.ref v0] M (some (.int q.1)) q.2 := by
  refine ex_of hG (by decide) (Nat.le_of_ble_eq_true rfl) ?_
  intro X hl C E N hD hn
  show ZM G X 0 [(2, .int v2), (1, .int v1), (0, .ref v0)] [] M 0 0
  unfold fM_worst at h
  refine zz_iconst (v := 1) C ddM_worst_0 (by decide) ?_
  refine zz_istore_n (L1 := [(1, .int 1), (0, .ref v0)]) C ddM_worst_1 rfl N (by decide) rfl ?_
  refine zz_iconst (v := 2) C ddM_worst_2 (by decide) ?_
  refine zz_istore_n (L1 := [(2, .int 2), (1, .int 1), (0, .ref v0)]) C ddM_worst_3 rfl N (by decide) rfl ?_
  refine zz_loc (L1 := [(0, .ref v0), (1, .int 1), (2, .int 2)]) [2, 1, 0] rfl ?_
  obtain ⟨q1, hq1, h⟩ := bindN h
  refine zLM_worst_4 hG C N hD hd 1000000 _ _ _ hq1 ?_
  · intro r2 eq1; subst eq1
    obtain rfl := Option.some.inj h
    exact E
theorem ddM_waste_0 : decode cM_waste 0 = .ok (.aload_n 0, 1) := by decide +kernel
theorem ddM_waste_1 : decode cM_waste 1 = .ok (.invokevirtual 160, 3) := by decide +kernel
theorem ddM_waste_4 : decode cM_waste 4 = .ok (.ifCond .eq 26, 3) := by decide +kernel
theorem ddM_waste_7 : decode cM_waste 7 = .ok (.iload_n 1, 1) := by decide +kernel
theorem ddM_waste_8 : decode cM_waste 8 = .ok (.iconst 0, 1) := by decide +kernel
theorem ddM_waste_9 : decode cM_waste 9 = .ok (.bipush 40, 2) := by decide +kernel
theorem ddM_waste_11 : decode cM_waste 11 = .ok (.invokestatic 75, 3) := by decide +kernel
theorem ddM_waste_14 : decode cM_waste 14 = .ok (.ifCond .eq 16, 3) := by decide +kernel
theorem ddM_waste_17 : decode cM_waste 17 = .ok (.iload_n 1, 1) := by decide +kernel
theorem ddM_waste_18 : decode cM_waste 18 = .ok (.ifCond .le 14, 3) := by decide +kernel
theorem ddM_waste_21 : decode cM_waste 21 = .ok (.aload_n 0, 1) := by decide +kernel
theorem ddM_waste_22 : decode cM_waste 22 = .ok (.iload_n 1, 1) := by decide +kernel
theorem ddM_waste_23 : decode cM_waste 23 = .ok (.invokevirtual 263, 3) := by decide +kernel
theorem ddM_waste_26 : decode cM_waste 26 = .ok (.iconst (-1), 1) := by decide +kernel
theorem ddM_waste_27 : decode cM_waste 27 = .ok (.if_icmp .ne 5, 3) := by decide +kernel
theorem ddM_waste_30 : decode cM_waste 30 = .ok (.iconst (-1), 1) := by decide +kernel
theorem ddM_waste_31 : decode cM_waste 31 = .ok (.ireturn, 1) := by decide +kernel
theorem ddM_waste_32 : decode cM_waste 32 = .ok (.iload_n 1, 1) := by decide +kernel
theorem ddM_waste_33 : decode cM_waste 33 = .ok (.ifCond .ne 10, 3) := by decide +kernel
theorem ddM_waste_36 : decode cM_waste 36 = .ok (.aload_n 0, 1) := by decide +kernel
theorem ddM_waste_37 : decode cM_waste 37 = .ok (.invokevirtual 348, 3) := by decide +kernel
theorem ddM_waste_40 : decode cM_waste 40 = .ok (.goto 15, 3) := by decide +kernel
theorem ddM_waste_43 : decode cM_waste 43 = .ok (.aload_n 0, 1) := by decide +kernel
theorem ddM_waste_44 : decode cM_waste 44 = .ok (.getfield 22, 3) := by decide +kernel
theorem ddM_waste_47 : decode cM_waste 47 = .ok (.aload_n 0, 1) := by decide +kernel
theorem ddM_waste_48 : decode cM_waste 48 = .ok (.iload_n 1, 1) := by decide +kernel
theorem ddM_waste_49 : decode cM_waste 49 = .ok (.invokevirtual 263, 3) := by decide +kernel
theorem ddM_waste_52 : decode cM_waste 52 = .ok (.iaload, 1) := by decide +kernel
theorem ddM_waste_53 : decode cM_waste 53 = .ok (.iload_n 1, 1) := by decide +kernel
theorem ddM_waste_54 : decode cM_waste 54 = .ok (.isub, 1) := by decide +kernel
theorem ddM_waste_55 : decode cM_waste 55 = .ok (.ireturn, 1) := by decide +kernel
set_option maxHeartbeats 2000000 in
theorem zBM_waste_55 {G : GXM} {X : CxM} (hG : GokM G) (C : CoM G X cM_waste "HomeFreedModel") (N : mLM X = 2) {d : Nat} (hD : dpM X = d) (hd : 2 ≤ d)  {q : Int32 × Mem} (E : EnM G X (some .int) (some (.int q.1)) q.2 0 0) {w0 : Int32} {M : Mem} (h : BM_waste_55 w0 M = some q) : ZM G X 55 [] [.int w0] M 0 0 := by
  unfold BM_waste_55 at h
  obtain rfl := Option.some.inj h
  exact zz_iret C E ddM_waste_55
set_option maxHeartbeats 2000000 in
theorem zBM_waste_32 {G : GXM} {X : CxM} (hG : GokM G) (C : CoM G X cM_waste "HomeFreedModel") (N : mLM X = 2) {d : Nat} (hD : dpM X = d) (hd : 2 ≤ d)  {q : Int32 × Mem} (E : EnM G X (some .int) (some (.int q.1)) q.2 0 0) {v0 : Nat} {v1 : Int32} {M : Mem} (h : BM_waste_32 v0 v1 M = some q) : ZM G X 32 [(0, .ref v0), (1, .int v1)] [] M 0 0 := by
  unfold BM_waste_32 at h
  refine zz_iload_n C 1 ddM_waste_32 rfl rfl ?_
  refine zz_if_ne (tgt := 43) C ddM_waste_33 rfl (fun hc => ?_) (fun hc => ?_)
  · replace h := iteF h hc
    refine zz_aload_n C 0 ddM_waste_43 rfl rfl ?_
    obtain ⟨h1, h⟩ := gdN h
    obtain ⟨h2, h⟩ := gdN h
    refine zz_getr C ddM_waste_44 fl_M_22 rfl h1 (of_decide_eq_true h2) ?_
    refine zz_aload_n C 0 ddM_waste_47 rfl rfl ?_
    refine zz_iload_n C 1 ddM_waste_48 rfl rfl ?_
    obtain ⟨q3, hq3, h⟩ := bindN h
    refine zz_callV0 (As := [.int v1]) C ddM_waste_49 wd_1459 my_M_classFor mv_M_classFor ⟨_, rfl, rfl⟩ (xM_classFor hG (d - 1) (by omega) hq3) (by omega) h1 rfl rfl (Nat.le_of_ble_eq_true rfl) ?_
    obtain ⟨h4, h⟩ := gdN h
    refine zz_iaload C ddM_waste_52 h4 ?_
    refine zz_iload_n C 1 ddM_waste_53 rfl rfl ?_
    refine zz_isub C ddM_waste_54 ?_
    refine zz_loc (L1 := []) [] rfl ?_
    exact zBM_waste_55 hG C N hD hd E h
  · replace h := iteT h hc
    refine zz_aload_n C 0 ddM_waste_36 rfl rfl ?_
    obtain ⟨h6, h⟩ := gdN h
    obtain ⟨q5, hq5, h⟩ := bindN h
    refine zz_callV0 (As := []) C ddM_waste_37 wd_1662 my_M_worst mv_M_worst ⟨_, rfl, rfl⟩ (xM_worst hG (d - 1) (by omega) hq5) (by omega) h6 rfl rfl (Nat.le_of_ble_eq_true rfl) ?_
    refine zz_goto (tgt := 55) C ddM_waste_40 rfl ?_
    refine zz_loc (L1 := []) [] rfl ?_
    exact zBM_waste_55 hG C N hD hd E h
set_option maxHeartbeats 2000000 in
theorem zBM_waste_30 {G : GXM} {X : CxM} (hG : GokM G) (C : CoM G X cM_waste "HomeFreedModel") (N : mLM X = 2) {d : Nat} (hD : dpM X = d) (hd : 2 ≤ d)  {q : Int32 × Mem} (E : EnM G X (some .int) (some (.int q.1)) q.2 0 0) {M : Mem} (h : BM_waste_30 M = some q) : ZM G X 30 [] [] M 0 0 := by
  unfold BM_waste_30 at h
  refine zz_iconst (v := (-1)) C ddM_waste_30 (by decide) ?_
  obtain rfl := Option.some.inj h
  exact zz_iret C E ddM_waste_31
set_option maxHeartbeats 2000000 in
theorem xM_waste {G : GXM} {l : Launch} (hG : GokM G) (d : Nat) (hd : 2 ≤ d) {v0 : Nat} {v1 : Int32} {M : Mem} {q : Int32 × Mem} (h : fM_waste v0 v1 M = some q) : ExM G l d 0 0 yM_waste cM_waste 2 (some .int) [.ref v0, .int v1] M (some (.int q.1)) q.2 := by
  refine ex_of hG (by decide) (Nat.le_of_ble_eq_true rfl) ?_
  intro X hl C E N hD hn
  show ZM G X 0 [(0, .ref v0), (1, .int v1)] [] M 0 0
  unfold fM_waste at h
  refine zz_aload_n C 0 ddM_waste_0 rfl rfl ?_
  obtain ⟨h2, h⟩ := gdN h
  obtain ⟨q1, hq1, h⟩ := bindN h
  refine zz_callV0 (As := []) C ddM_waste_1 wd_1362 my_M_isArena mv_M_isArena ⟨_, rfl, rfl⟩ (xM_isArena hG (d - 1) (by omega) hq1) (by omega) h2 rfl rfl (Nat.le_of_ble_eq_true rfl) ?_
  refine zz_if_eq (tgt := 30) C ddM_waste_4 rfl (fun hc => ?_) (fun hc => ?_)
  · replace h := iteT h hc
    refine zz_loc (L1 := []) [] rfl ?_
    exact zBM_waste_30 hG C N hD hd E h
  · replace h := iteF h hc
    refine zz_iload_n C 1 ddM_waste_7 rfl rfl ?_
    refine zz_iconst (v := 0) C ddM_waste_8 (by decide) ?_
    refine zz_bipush (v := 40) C ddM_waste_9 (by decide) ?_
    obtain ⟨q3, hq3, h⟩ := bindN h
    refine zz_callS0 (As := [.int v1, .int 0, .int 40]) C ddM_waste_11 wd_1289 my_M_in mv_M_in (xM_in hG (d - 1) (by omega) hq3) (by omega) rfl rfl (Nat.le_of_ble_eq_true rfl) ?_
    refine zz_if_eq (tgt := 30) C ddM_waste_14 rfl (fun hc => ?_) (fun hc => ?_)
    · replace h := iteT h hc
      refine zz_loc (L1 := []) [] rfl ?_
      exact zBM_waste_30 hG C N hD hd E h
    · replace h := iteF h hc
      refine zz_iload_n C 1 ddM_waste_17 rfl rfl ?_
      refine zz_if_le (tgt := 32) C ddM_waste_18 rfl (fun hc => ?_) (fun hc => ?_)
      · replace h := iteT h hc
        exact zBM_waste_32 hG C N hD hd E h
      · replace h := iteF h hc
        refine zz_aload_n C 0 ddM_waste_21 rfl rfl ?_
        refine zz_iload_n C 1 ddM_waste_22 rfl rfl ?_
        obtain ⟨h5, h⟩ := gdN h
        obtain ⟨q4, hq4, h⟩ := bindN h
        refine zz_callV0 (As := [.int v1]) C ddM_waste_23 wd_1459 my_M_classFor mv_M_classFor ⟨_, rfl, rfl⟩ (xM_classFor hG (d - 1) (by omega) hq4) (by omega) h5 rfl rfl (Nat.le_of_ble_eq_true rfl) ?_
        refine zz_iconst (v := (-1)) C ddM_waste_26 (by decide) ?_
        refine zz_icmp_ne (tgt := 32) C ddM_waste_27 rfl (fun hc => ?_) (fun hc => ?_)
        · replace h := iteF h hc
          exact zBM_waste_32 hG C N hD hd E h
        · replace h := iteT h hc
          refine zz_loc (L1 := []) [] rfl ?_
          exact zBM_waste_30 hG C N hD hd E h
theorem ddM_classes_0 : decode cM_classes 0 = .ok (.aload_n 0, 1) := by decide +kernel
theorem ddM_classes_1 : decode cM_classes 1 = .ok (.invokevirtual 160, 3) := by decide +kernel
theorem ddM_classes_4 : decode cM_classes 4 = .ok (.ifCond .eq 18, 3) := by decide +kernel
theorem ddM_classes_7 : decode cM_classes 7 = .ok (.iload_n 1, 1) := by decide +kernel
theorem ddM_classes_8 : decode cM_classes 8 = .ok (.iconst 0, 1) := by decide +kernel
theorem ddM_classes_9 : decode cM_classes 9 = .ok (.bipush 90, 2) := by decide +kernel
theorem ddM_classes_11 : decode cM_classes 11 = .ok (.invokestatic 75, 3) := by decide +kernel
theorem ddM_classes_14 : decode cM_classes 14 = .ok (.ifCond .eq 8, 3) := by decide +kernel
theorem ddM_classes_17 : decode cM_classes 17 = .ok (.iload_n 2, 1) := by decide +kernel
theorem ddM_classes_18 : decode cM_classes 18 = .ok (.iconst (-1), 1) := by decide +kernel
theorem ddM_classes_19 : decode cM_classes 19 = .ok (.if_icmp .ge 5, 3) := by decide +kernel
theorem ddM_classes_22 : decode cM_classes 22 = .ok (.iconst (-1), 1) := by decide +kernel
theorem ddM_classes_23 : decode cM_classes 23 = .ok (.ireturn, 1) := by decide +kernel
theorem ddM_classes_24 : decode cM_classes 24 = .ok (.iconst 1, 1) := by decide +kernel
theorem ddM_classes_25 : decode cM_classes 25 = .ok (.istore_n 3, 1) := by decide +kernel
theorem ddM_classes_26 : decode cM_classes 26 = .ok (.iconst 1, 1) := by decide +kernel
theorem ddM_classes_27 : decode cM_classes 27 = .ok (.istore 4, 2) := by decide +kernel
theorem ddM_classes_29 : decode cM_classes 29 = .ok (.iload_n 3, 1) := by decide +kernel
theorem ddM_classes_30 : decode cM_classes 30 = .ok (.aload_n 0, 1) := by decide +kernel
theorem ddM_classes_31 : decode cM_classes 31 = .ok (.getfield 19, 3) := by decide +kernel
theorem ddM_classes_34 : decode cM_classes 34 = .ok (.iconst 2, 1) := by decide +kernel
theorem ddM_classes_35 : decode cM_classes 35 = .ok (.iaload, 1) := by decide +kernel
theorem ddM_classes_36 : decode cM_classes 36 = .ok (.if_icmp .ge 72, 3) := by decide +kernel
theorem ddM_classes_39 : decode cM_classes 39 = .ok (.iload 4, 2) := by decide +kernel
theorem ddM_classes_41 : decode cM_classes 41 = .ok (.iconst 1, 1) := by decide +kernel
theorem ddM_classes_42 : decode cM_classes 42 = .ok (.isub, 1) := by decide +kernel
theorem ddM_classes_43 : decode cM_classes 43 = .ok (.iload_n 2, 1) := by decide +kernel
theorem ddM_classes_44 : decode cM_classes 44 = .ok (.if_icmp .eq 64, 3) := by decide +kernel
theorem ddM_classes_47 : decode cM_classes 47 = .ok (.iload_n 3, 1) := by decide +kernel
theorem ddM_classes_48 : decode cM_classes 48 = .ok (.iconst 1, 1) := by decide +kernel
theorem ddM_classes_49 : decode cM_classes 49 = .ok (.iadd, 1) := by decide +kernel
theorem ddM_classes_50 : decode cM_classes 50 = .ok (.istore 5, 2) := by decide +kernel
theorem ddM_classes_52 : decode cM_classes 52 = .ok (.iload_n 3, 1) := by decide +kernel
theorem ddM_classes_53 : decode cM_classes 53 = .ok (.iconst 1, 1) := by decide +kernel
theorem ddM_classes_54 : decode cM_classes 54 = .ok (.iadd, 1) := by decide +kernel
theorem ddM_classes_55 : decode cM_classes 55 = .ok (.istore 6, 2) := by decide +kernel
theorem ddM_classes_57 : decode cM_classes 57 = .ok (.iload 6, 2) := by decide +kernel
theorem ddM_classes_59 : decode cM_classes 59 = .ok (.aload_n 0, 1) := by decide +kernel
theorem ddM_classes_60 : decode cM_classes 60 = .ok (.getfield 19, 3) := by decide +kernel
theorem ddM_classes_63 : decode cM_classes 63 = .ok (.iconst 2, 1) := by decide +kernel
theorem ddM_classes_64 : decode cM_classes 64 = .ok (.iaload, 1) := by decide +kernel
theorem ddM_classes_65 : decode cM_classes 65 = .ok (.if_icmp .gt 34, 3) := by decide +kernel
theorem ddM_classes_68 : decode cM_classes 68 = .ok (.bipush 100, 2) := by decide +kernel
theorem ddM_classes_70 : decode cM_classes 70 = .ok (.iload 6, 2) := by decide +kernel
theorem ddM_classes_72 : decode cM_classes 72 = .ok (.iload_n 3, 1) := by decide +kernel
theorem ddM_classes_73 : decode cM_classes 73 = .ok (.isub, 1) := by decide +kernel
theorem ddM_classes_74 : decode cM_classes 74 = .ok (.iconst 1, 1) := by decide +kernel
theorem ddM_classes_75 : decode cM_classes 75 = .ok (.isub, 1) := by decide +kernel
theorem ddM_classes_76 : decode cM_classes 76 = .ok (.imul, 1) := by decide +kernel
theorem ddM_classes_77 : decode cM_classes 77 = .ok (.iload_n 1, 1) := by decide +kernel
theorem ddM_classes_78 : decode cM_classes 78 = .ok (.iload 6, 2) := by decide +kernel
theorem ddM_classes_80 : decode cM_classes 80 = .ok (.imul, 1) := by decide +kernel
theorem ddM_classes_81 : decode cM_classes 81 = .ok (.if_icmp .gt 8, 3) := by decide +kernel
theorem ddM_classes_84 : decode cM_classes 84 = .ok (.iload 6, 2) := by decide +kernel
theorem ddM_classes_86 : decode cM_classes 86 = .ok (.goto 5, 3) := by decide +kernel
theorem ddM_classes_89 : decode cM_classes 89 = .ok (.iload 5, 2) := by decide +kernel
theorem ddM_classes_91 : decode cM_classes 91 = .ok (.istore 5, 2) := by decide +kernel
theorem ddM_classes_93 : decode cM_classes 93 = .ok (.iinc 6 1, 3) := by decide +kernel
theorem ddM_classes_96 : decode cM_classes 96 = .ok (.goto (-39), 3) := by decide +kernel
theorem ddM_classes_99 : decode cM_classes 99 = .ok (.iload 5, 2) := by decide +kernel
theorem ddM_classes_101 : decode cM_classes 101 = .ok (.istore_n 3, 1) := by decide +kernel
theorem ddM_classes_102 : decode cM_classes 102 = .ok (.iinc 4 1, 3) := by decide +kernel
theorem ddM_classes_105 : decode cM_classes 105 = .ok (.goto (-76), 3) := by decide +kernel
theorem ddM_classes_108 : decode cM_classes 108 = .ok (.iload_n 2, 1) := by decide +kernel
theorem ddM_classes_109 : decode cM_classes 109 = .ok (.iconst (-1), 1) := by decide +kernel
theorem ddM_classes_110 : decode cM_classes 110 = .ok (.if_icmp .ne 8, 3) := by decide +kernel
theorem ddM_classes_113 : decode cM_classes 113 = .ok (.iload 4, 2) := by decide +kernel
theorem ddM_classes_115 : decode cM_classes 115 = .ok (.goto 16, 3) := by decide +kernel
theorem ddM_classes_118 : decode cM_classes 118 = .ok (.iload 4, 2) := by decide +kernel
theorem ddM_classes_120 : decode cM_classes 120 = .ok (.iconst 1, 1) := by decide +kernel
theorem ddM_classes_121 : decode cM_classes 121 = .ok (.isub, 1) := by decide +kernel
theorem ddM_classes_122 : decode cM_classes 122 = .ok (.iload_n 2, 1) := by decide +kernel
theorem ddM_classes_123 : decode cM_classes 123 = .ok (.if_icmp .ne 7, 3) := by decide +kernel
theorem ddM_classes_126 : decode cM_classes 126 = .ok (.iload_n 3, 1) := by decide +kernel
theorem ddM_classes_127 : decode cM_classes 127 = .ok (.goto 4, 3) := by decide +kernel
theorem ddM_classes_130 : decode cM_classes 130 = .ok (.iconst (-1), 1) := by decide +kernel
theorem ddM_classes_131 : decode cM_classes 131 = .ok (.ireturn, 1) := by decide +kernel
set_option maxHeartbeats 2000000 in
theorem zBM_classes_131 {G : GXM} {X : CxM} (hG : GokM G) (C : CoM G X cM_classes "HomeFreedModel") (N : mLM X = 7) {d : Nat} (hD : dpM X = d) (hd : 1 ≤ d)  {q : Int32 × Mem} (E : EnM G X (some .int) (some (.int q.1)) q.2 0 0) {w0 : Int32} {M : Mem} (h : BM_classes_131 w0 M = some q) : ZM G X 131 [] [.int w0] M 0 0 := by
  unfold BM_classes_131 at h
  obtain rfl := Option.some.inj h
  exact zz_iret C E ddM_classes_131
set_option maxHeartbeats 2000000 in
theorem zBM_classes_108 {G : GXM} {X : CxM} (hG : GokM G) (C : CoM G X cM_classes "HomeFreedModel") (N : mLM X = 7) {d : Nat} (hD : dpM X = d) (hd : 1 ≤ d)  {q : Int32 × Mem} (E : EnM G X (some .int) (some (.int q.1)) q.2 0 0) {v2 : Int32} {v3 : Int32} {v4 : Int32} {M : Mem} (h : BM_classes_108 v2 v3 v4 M = some q) : ZM G X 108 [(2, .int v2), (3, .int v3), (4, .int v4)] [] M 0 0 := by
  unfold BM_classes_108 at h
  refine zz_iload_n C 0 ddM_classes_108 rfl rfl ?_
  refine zz_iconst (v := (-1)) C ddM_classes_109 (by decide) ?_
  refine zz_icmp_ne (tgt := 118) C ddM_classes_110 rfl (fun hc => ?_) (fun hc => ?_)
  · replace h := iteF h hc
    refine zz_iload C 2 ddM_classes_118 rfl ?_
    refine zz_iconst (v := 1) C ddM_classes_120 (by decide) ?_
    refine zz_isub C ddM_classes_121 ?_
    refine zz_iload_n C 0 ddM_classes_122 rfl rfl ?_
    refine zz_icmp_ne (tgt := 130) C ddM_classes_123 rfl (fun hc => ?_) (fun hc => ?_)
    · replace h := iteF h hc
      refine zz_iconst (v := (-1)) C ddM_classes_130 (by decide) ?_
      refine zz_loc (L1 := []) [] rfl ?_
      exact zBM_classes_131 hG C N hD hd E h
    · replace h := iteT h hc
      refine zz_iload_n C 1 ddM_classes_126 rfl rfl ?_
      refine zz_goto (tgt := 131) C ddM_classes_127 rfl ?_
      refine zz_loc (L1 := []) [] rfl ?_
      exact zBM_classes_131 hG C N hD hd E h
  · replace h := iteT h hc
    refine zz_iload C 2 ddM_classes_113 rfl ?_
    refine zz_goto (tgt := 131) C ddM_classes_115 rfl ?_
    refine zz_loc (L1 := []) [] rfl ?_
    exact zBM_classes_131 hG C N hD hd E h
set_option maxHeartbeats 2000000 in
theorem zBM_classes_91 {G : GXM} {X : CxM} (hG : GokM G) (C : CoM G X cM_classes "HomeFreedModel") (N : mLM X = 7) {d : Nat} (hD : dpM X = d) (hd : 1 ≤ d) {v0 : Nat} {v1 : Int32} {v2 : Int32} {v3 : Int32} {v4 : Int32} {K : Nat → Int32 → Int32 → Int32 → Int32 → Int32 → Int32 → Mem → Option ((Int32 × Mem))} {q : (Int32 × Mem)} (hK : ∀ (v5 : Int32) (v6 : Int32) (M : Mem), K v0 v1 v2 v3 v4 v5 v6 M = some q → ZM G X 57 [(0, .ref v0), (1, .int v1), (2, .int v2), (3, .int v3), (4, .int v4), (5, .int v5), (6, .int v6)] [] M 0 0) (hx0 : ∀ y : Int32 × Mem, q = y → ZM G X 99 [(0, .ref v0), (1, .int v1), (2, .int v2), (4, .int v4), (5, .int y.1)] [] y.2 0 0) {v6 : Int32} {w0 : Int32} {M : Mem} (h : BM_classes_91 K v0 v1 v2 v3 v4 v6 w0 M = some q) : ZM G X 91 [(0, .ref v0), (1, .int v1), (2, .int v2), (3, .int v3), (4, .int v4), (6, .int v6)] [.int w0] M 0 0 := by
  unfold BM_classes_91 at h
  refine zz_istore (L1 := [(5, .int w0), (0, .ref v0), (1, .int v1), (2, .int v2), (3, .int v3), (4, .int v4), (6, .int v6)]) C ddM_classes_91 N (by decide) rfl ?_
  refine zz_iinc (v := v6 + 1) (L1 := [(6, .int (v6 + 1)), (5, .int w0), (0, .ref v0), (1, .int v1), (2, .int v2), (3, .int v3), (4, .int v4)]) C 6 ddM_classes_93 rfl rfl N (by decide) rfl ?_
  refine zz_goto (tgt := 57) C ddM_classes_96 rfl ?_
  refine zz_loc (L1 := [(0, .ref v0), (1, .int v1), (2, .int v2), (3, .int v3), (4, .int v4), (5, .int w0), (6, .int (v6 + 1))]) [2, 3, 4, 5, 6, 1, 0] rfl ?_
  exact hK _ _ _ h
set_option maxHeartbeats 2000000 in
theorem zBM_classes_57 {G : GXM} {X : CxM} (hG : GokM G) (C : CoM G X cM_classes "HomeFreedModel") (N : mLM X = 7) {d : Nat} (hD : dpM X = d) (hd : 1 ≤ d) {v0 : Nat} {v1 : Int32} {v2 : Int32} {v3 : Int32} {v4 : Int32} {K : Nat → Int32 → Int32 → Int32 → Int32 → Int32 → Int32 → Mem → Option ((Int32 × Mem))} {q : (Int32 × Mem)} (hK : ∀ (v5 : Int32) (v6 : Int32) (M : Mem), K v0 v1 v2 v3 v4 v5 v6 M = some q → ZM G X 57 [(0, .ref v0), (1, .int v1), (2, .int v2), (3, .int v3), (4, .int v4), (5, .int v5), (6, .int v6)] [] M 0 0) (hx0 : ∀ y : Int32 × Mem, q = y → ZM G X 99 [(0, .ref v0), (1, .int v1), (2, .int v2), (4, .int v4), (5, .int y.1)] [] y.2 0 0) {v5 : Int32} {v6 : Int32} {M : Mem} (h : BM_classes_57 K v0 v1 v2 v3 v4 v5 v6 M = some q) : ZM G X 57 [(0, .ref v0), (1, .int v1), (2, .int v2), (3, .int v3), (4, .int v4), (5, .int v5), (6, .int v6)] [] M 0 0 := by
  unfold BM_classes_57 at h
  refine zz_iload C 6 ddM_classes_57 rfl ?_
  refine zz_aload_n C 0 ddM_classes_59 rfl rfl ?_
  obtain ⟨h1, h⟩ := gdN h
  obtain ⟨h2, h⟩ := gdN h
  refine zz_getr C ddM_classes_60 fl_M_19 rfl h1 (of_decide_eq_true h2) ?_
  refine zz_iconst (v := 2) C ddM_classes_63 (by decide) ?_
  obtain ⟨h3, h⟩ := gdN h
  refine zz_iaload C ddM_classes_64 h3 ?_
  refine zz_icmp_gt (tgt := 99) C ddM_classes_65 rfl (fun hc => ?_) (fun hc => ?_)
  · replace h := iteT h hc
    refine zz_loc (L1 := [(0, .ref v0), (1, .int v1), (2, .int v2), (4, .int v4), (5, .int v5)]) [0, 1, 2, 4, 5] rfl ?_
    exact hx0 _ (Option.some.inj h).symm
  · replace h := iteF h hc
    refine zz_bipush (v := 100) C ddM_classes_68 (by decide) ?_
    refine zz_iload C 6 ddM_classes_70 rfl ?_
    refine zz_iload_n C 3 ddM_classes_72 rfl rfl ?_
    refine zz_isub C ddM_classes_73 ?_
    refine zz_iconst (v := 1) C ddM_classes_74 (by decide) ?_
    refine zz_isub C ddM_classes_75 ?_
    refine zz_imul C ddM_classes_76 ?_
    refine zz_iload_n C 1 ddM_classes_77 rfl rfl ?_
    refine zz_iload C 6 ddM_classes_78 rfl ?_
    refine zz_imul C ddM_classes_80 ?_
    refine zz_icmp_gt (tgt := 89) C ddM_classes_81 rfl (fun hc => ?_) (fun hc => ?_)
    · replace h := iteT h hc
      refine zz_iload C 5 ddM_classes_89 rfl ?_
      refine zz_loc (L1 := [(0, .ref v0), (1, .int v1), (2, .int v2), (3, .int v3), (4, .int v4), (6, .int v6)]) [0, 1, 2, 3, 4, 6] rfl ?_
      exact zBM_classes_91 hG C N hD hd hK hx0 h
    · replace h := iteF h hc
      refine zz_iload C 6 ddM_classes_84 rfl ?_
      refine zz_goto (tgt := 91) C ddM_classes_86 rfl ?_
      refine zz_loc (L1 := [(0, .ref v0), (1, .int v1), (2, .int v2), (3, .int v3), (4, .int v4), (6, .int v6)]) [0, 1, 2, 3, 4, 6] rfl ?_
      exact zBM_classes_91 hG C N hD hd hK hx0 h
set_option maxHeartbeats 2000000 in
theorem zLM_classes_57 {G : GXM} {X : CxM} (hG : GokM G) (C : CoM G X cM_classes "HomeFreedModel") (N : mLM X = 7) {d : Nat} (hD : dpM X = d) (hd : 1 ≤ d) {v0 : Nat} {v1 : Int32} {v2 : Int32} {v3 : Int32} {v4 : Int32} {q : (Int32 × Mem)} : ∀ (f : Nat) (v5 : Int32) (v6 : Int32) (M : Mem), LM_classes_57 f v0 v1 v2 v3 v4 v5 v6 M = some q → (hx0 : ∀ y : Int32 × Mem, q = y → ZM G X 99 [(0, .ref v0), (1, .int v1), (2, .int v2), (4, .int v4), (5, .int y.1)] [] y.2 0 0) → ZM G X 57 [(0, .ref v0), (1, .int v1), (2, .int v2), (3, .int v3), (4, .int v4), (5, .int v5), (6, .int v6)] [] M 0 0 := by
  intro f
  induction f with
  | zero => intro v5 v6 M h; cases h
  | succ f ih =>
    intro v5 v6 M h hx0
    exact zBM_classes_57 hG C N hD hd (K := LM_classes_57 f) (q := q) (fun v5 v6 M h => ih v5 v6 M h hx0) hx0 h
set_option maxHeartbeats 2000000 in
theorem zBM_classes_29 {G : GXM} {X : CxM} (hG : GokM G) (C : CoM G X cM_classes "HomeFreedModel") (N : mLM X = 7) {d : Nat} (hD : dpM X = d) (hd : 1 ≤ d) {v0 : Nat} {v1 : Int32} {v2 : Int32} {K : Nat → Int32 → Int32 → Int32 → Int32 → Mem → Option ((Int32 × Int32 × Mem))} {q : (Int32 × Int32 × Mem)} (hK : ∀ (v3 : Int32) (v4 : Int32) (M : Mem), K v0 v1 v2 v3 v4 M = some q → ZM G X 29 [(0, .ref v0), (1, .int v1), (2, .int v2), (3, .int v3), (4, .int v4)] [] M 0 0) (hx0 : ∀ y : Int32 × Int32 × Mem, q = y → ZM G X 108 [(2, .int v2), (3, .int y.1), (4, .int y.2.1)] [] y.2.2 0 0) {v3 : Int32} {v4 : Int32} {M : Mem} (h : BM_classes_29 K v0 v1 v2 v3 v4 M = some q) : ZM G X 29 [(0, .ref v0), (1, .int v1), (2, .int v2), (3, .int v3), (4, .int v4)] [] M 0 0 := by
  unfold BM_classes_29 at h
  refine zz_iload_n C 3 ddM_classes_29 rfl rfl ?_
  refine zz_aload_n C 0 ddM_classes_30 rfl rfl ?_
  obtain ⟨h1, h⟩ := gdN h
  obtain ⟨h2, h⟩ := gdN h
  refine zz_getr C ddM_classes_31 fl_M_19 rfl h1 (of_decide_eq_true h2) ?_
  refine zz_iconst (v := 2) C ddM_classes_34 (by decide) ?_
  obtain ⟨h3, h⟩ := gdN h
  refine zz_iaload C ddM_classes_35 h3 ?_
  refine zz_icmp_ge (tgt := 108) C ddM_classes_36 rfl (fun hc => ?_) (fun hc => ?_)
  · replace h := iteT h hc
    refine zz_loc (L1 := [(2, .int v2), (3, .int v3), (4, .int v4)]) [2, 3, 4] rfl ?_
    exact hx0 _ (Option.some.inj h).symm
  · replace h := iteF h hc
    refine zz_iload C 4 ddM_classes_39 rfl ?_
    refine zz_iconst (v := 1) C ddM_classes_41 (by decide) ?_
    refine zz_isub C ddM_classes_42 ?_
    refine zz_iload_n C 2 ddM_classes_43 rfl rfl ?_
    refine zz_icmp_eq (tgt := 108) C ddM_classes_44 rfl (fun hc => ?_) (fun hc => ?_)
    · replace h := iteT h hc
      refine zz_loc (L1 := [(2, .int v2), (3, .int v3), (4, .int v4)]) [2, 3, 4] rfl ?_
      exact hx0 _ (Option.some.inj h).symm
    · replace h := iteF h hc
      refine zz_iload_n C 3 ddM_classes_47 rfl rfl ?_
      refine zz_iconst (v := 1) C ddM_classes_48 (by decide) ?_
      refine zz_iadd C ddM_classes_49 ?_
      refine zz_istore (L1 := [(5, .int (v3 + 1)), (0, .ref v0), (1, .int v1), (2, .int v2), (3, .int v3), (4, .int v4)]) C ddM_classes_50 N (by decide) rfl ?_
      refine zz_iload_n C 4 ddM_classes_52 rfl rfl ?_
      refine zz_iconst (v := 1) C ddM_classes_53 (by decide) ?_
      refine zz_iadd C ddM_classes_54 ?_
      refine zz_istore (L1 := [(6, .int (v3 + 1)), (5, .int (v3 + 1)), (0, .ref v0), (1, .int v1), (2, .int v2), (3, .int v3), (4, .int v4)]) C ddM_classes_55 N (by decide) rfl ?_
      refine zz_loc (L1 := [(0, .ref v0), (1, .int v1), (2, .int v2), (3, .int v3), (4, .int v4), (5, .int (v3 + 1)), (6, .int (v3 + 1))]) [2, 3, 4, 5, 6, 1, 0] rfl ?_
      obtain ⟨q4, hq4, h⟩ := bindN h
      refine zLM_classes_57 hG C N hD hd 1000000 _ _ _ hq4 ?_
      · intro y5 eq4; subst eq4
        refine zz_iload C 4 ddM_classes_99 rfl ?_
        refine zz_istore_n (L1 := [(3, .int y5.1), (0, .ref v0), (1, .int v1), (2, .int v2), (4, .int v4), (5, .int y5.1)]) C ddM_classes_101 rfl N (by decide) rfl ?_
        refine zz_iinc (v := v4 + 1) (L1 := [(4, .int (v4 + 1)), (3, .int y5.1), (0, .ref v0), (1, .int v1), (2, .int v2), (5, .int y5.1)]) C 4 ddM_classes_102 rfl rfl N (by decide) rfl ?_
        refine zz_goto (tgt := 29) C ddM_classes_105 rfl ?_
        refine zz_loc (L1 := [(0, .ref v0), (1, .int v1), (2, .int v2), (3, .int y5.1), (4, .int (v4 + 1))]) [2, 3, 4, 1, 0] rfl ?_
        exact hK _ _ _ h
set_option maxHeartbeats 2000000 in
theorem zLM_classes_29 {G : GXM} {X : CxM} (hG : GokM G) (C : CoM G X cM_classes "HomeFreedModel") (N : mLM X = 7) {d : Nat} (hD : dpM X = d) (hd : 1 ≤ d) {v0 : Nat} {v1 : Int32} {v2 : Int32} {q : (Int32 × Int32 × Mem)} : ∀ (f : Nat) (v3 : Int32) (v4 : Int32) (M : Mem), LM_classes_29 f v0 v1 v2 v3 v4 M = some q → (hx0 : ∀ y : Int32 × Int32 × Mem, q = y → ZM G X 108 [(2, .int v2), (3, .int y.1), (4, .int y.2.1)] [] y.2.2 0 0) → ZM G X 29 [(0, .ref v0), (1, .int v1), (2, .int v2), (3, .int v3), (4, .int v4)] [] M 0 0 := by
  intro f
  induction f with
  | zero => intro v3 v4 M h; cases h
  | succ f ih =>
    intro v3 v4 M h hx0
    exact zBM_classes_29 hG C N hD hd (K := LM_classes_29 f) (q := q) (fun v3 v4 M h => ih v3 v4 M h hx0) hx0 h
set_option maxHeartbeats 2000000 in
theorem zBM_classes_22 {G : GXM} {X : CxM} (hG : GokM G) (C : CoM G X cM_classes "HomeFreedModel") (N : mLM X = 7) {d : Nat} (hD : dpM X = d) (hd : 1 ≤ d)  {q : Int32 × Mem} (E : EnM G X (some .int) (some (.int q.1)) q.2 0 0) {M : Mem} (h : BM_classes_22 M = some q) : ZM G X 22 [] [] M 0 0 := by
  unfold BM_classes_22 at h
  refine zz_iconst (v := (-1)) C ddM_classes_22 (by decide) ?_
  obtain rfl := Option.some.inj h
  exact zz_iret C E ddM_classes_23
set_option maxHeartbeats 2000000 in
theorem xM_classes {G : GXM} {l : Launch} (hG : GokM G) (d : Nat) (hd : 1 ≤ d) {v0 : Nat} {v1 : Int32} {v2 : Int32} {M : Mem} {q : Int32 × Mem} (h : fM_classes v0 v1 v2 M = some q) : ExM G l d 0 0 yM_classes cM_classes 7 (some .int) [.ref v0, .int v1, .int v2] M (some (.int q.1)) q.2 := by
  refine ex_of hG (by decide) (Nat.le_of_ble_eq_true rfl) ?_
  intro X hl C E N hD hn
  show ZM G X 0 [(0, .ref v0), (1, .int v1), (2, .int v2)] [] M 0 0
  unfold fM_classes at h
  refine zz_aload_n C 0 ddM_classes_0 rfl rfl ?_
  obtain ⟨h2, h⟩ := gdN h
  obtain ⟨q1, hq1, h⟩ := bindN h
  refine zz_callV0 (As := []) C ddM_classes_1 wd_1362 my_M_isArena mv_M_isArena ⟨_, rfl, rfl⟩ (xM_isArena hG (d - 1) (by omega) hq1) (by omega) h2 rfl rfl (Nat.le_of_ble_eq_true rfl) ?_
  refine zz_if_eq (tgt := 22) C ddM_classes_4 rfl (fun hc => ?_) (fun hc => ?_)
  · replace h := iteT h hc
    refine zz_loc (L1 := []) [] rfl ?_
    exact zBM_classes_22 hG C N hD hd E h
  · replace h := iteF h hc
    refine zz_iload_n C 1 ddM_classes_7 rfl rfl ?_
    refine zz_iconst (v := 0) C ddM_classes_8 (by decide) ?_
    refine zz_bipush (v := 90) C ddM_classes_9 (by decide) ?_
    obtain ⟨q3, hq3, h⟩ := bindN h
    refine zz_callS0 (As := [.int v1, .int 0, .int 90]) C ddM_classes_11 wd_1289 my_M_in mv_M_in (xM_in hG (d - 1) (by omega) hq3) (by omega) rfl rfl (Nat.le_of_ble_eq_true rfl) ?_
    refine zz_if_eq (tgt := 22) C ddM_classes_14 rfl (fun hc => ?_) (fun hc => ?_)
    · replace h := iteT h hc
      refine zz_loc (L1 := []) [] rfl ?_
      exact zBM_classes_22 hG C N hD hd E h
    · replace h := iteF h hc
      refine zz_iload_n C 2 ddM_classes_17 rfl rfl ?_
      refine zz_iconst (v := (-1)) C ddM_classes_18 (by decide) ?_
      refine zz_icmp_ge (tgt := 24) C ddM_classes_19 rfl (fun hc => ?_) (fun hc => ?_)
      · replace h := iteT h hc
        refine zz_iconst (v := 1) C ddM_classes_24 (by decide) ?_
        refine zz_istore_n (L1 := [(3, .int 1), (0, .ref v0), (1, .int v1), (2, .int v2)]) C ddM_classes_25 rfl N (by decide) rfl ?_
        refine zz_iconst (v := 1) C ddM_classes_26 (by decide) ?_
        refine zz_istore (L1 := [(4, .int 1), (3, .int 1), (0, .ref v0), (1, .int v1), (2, .int v2)]) C ddM_classes_27 N (by decide) rfl ?_
        refine zz_loc (L1 := [(0, .ref v0), (1, .int v1), (2, .int v2), (3, .int 1), (4, .int 1)]) [2, 3, 4, 1, 0] rfl ?_
        obtain ⟨q4, hq4, h⟩ := bindN h
        refine zLM_classes_29 hG C N hD hd 1000000 _ _ _ hq4 ?_
        · intro y5 eq4; subst eq4
          exact zBM_classes_108 hG C N hD hd E h
      · replace h := iteF h hc
        refine zz_loc (L1 := []) [] rfl ?_
        exact zBM_classes_22 hG C N hD hd E h
theorem ddM_putAside_0 : decode cM_putAside 0 = .ok (.iconst 0, 1) := by decide +kernel
theorem ddM_putAside_1 : decode cM_putAside 1 = .ok (.istore_n 2, 1) := by decide +kernel
theorem ddM_putAside_2 : decode cM_putAside 2 = .ok (.iload_n 2, 1) := by decide +kernel
theorem ddM_putAside_3 : decode cM_putAside 3 = .ok (.sipush 3712, 3) := by decide +kernel
theorem ddM_putAside_6 : decode cM_putAside 6 = .ok (.if_icmp .ge 27, 3) := by decide +kernel
theorem ddM_putAside_9 : decode cM_putAside 9 = .ok (.aload_n 0, 1) := by decide +kernel
theorem ddM_putAside_10 : decode cM_putAside 10 = .ok (.getfield 58, 3) := by decide +kernel
theorem ddM_putAside_13 : decode cM_putAside 13 = .ok (.sipush 3712, 3) := by decide +kernel
theorem ddM_putAside_16 : decode cM_putAside 16 = .ok (.iload_n 1, 1) := by decide +kernel
theorem ddM_putAside_17 : decode cM_putAside 17 = .ok (.imul, 1) := by decide +kernel
theorem ddM_putAside_18 : decode cM_putAside 18 = .ok (.iload_n 2, 1) := by decide +kernel
theorem ddM_putAside_19 : decode cM_putAside 19 = .ok (.iadd, 1) := by decide +kernel
theorem ddM_putAside_20 : decode cM_putAside 20 = .ok (.aload_n 0, 1) := by decide +kernel
theorem ddM_putAside_21 : decode cM_putAside 21 = .ok (.getfield 31, 3) := by decide +kernel
theorem ddM_putAside_24 : decode cM_putAside 24 = .ok (.iload_n 2, 1) := by decide +kernel
theorem ddM_putAside_25 : decode cM_putAside 25 = .ok (.iaload, 1) := by decide +kernel
theorem ddM_putAside_26 : decode cM_putAside 26 = .ok (.iastore, 1) := by decide +kernel
theorem ddM_putAside_27 : decode cM_putAside 27 = .ok (.iinc 2 1, 3) := by decide +kernel
theorem ddM_putAside_30 : decode cM_putAside 30 = .ok (.goto (-28), 3) := by decide +kernel
theorem ddM_putAside_33 : decode cM_putAside 33 = .ok (.return_, 1) := by decide +kernel
set_option maxHeartbeats 2000000 in
theorem zBM_putAside_2 {G : GXM} {X : CxM} (hG : GokM G) (C : CoM G X cM_putAside "HomeFreedModel") (N : mLM X = 3) {d : Nat} (hD : dpM X = d) (hd : 0 ≤ d) {v0 : Nat} {v1 : Int32} {K : Nat → Int32 → Int32 → Mem → Option ((Mem))} {q : (Mem)} (hK : ∀ (v2 : Int32) (M : Mem), K v0 v1 v2 M = some q → ZM G X 2 [(0, .ref v0), (1, .int v1), (2, .int v2)] [] M 0 0) (hr : ∀ r : Mem, q =  r → EnM G X none none r 0 0) {v2 : Int32} {M : Mem} (h : BM_putAside_2 K v0 v1 v2 M = some q) : ZM G X 2 [(0, .ref v0), (1, .int v1), (2, .int v2)] [] M 0 0 := by
  unfold BM_putAside_2 at h
  refine zz_iload_n C 2 ddM_putAside_2 rfl rfl ?_
  refine zz_sipush (v := 3712) C ddM_putAside_3 (by decide) ?_
  refine zz_icmp_ge (tgt := 33) C ddM_putAside_6 rfl (fun hc => ?_) (fun hc => ?_)
  · replace h := iteT h hc
    exact zz_vret C (hr _ (Option.some.inj h).symm) ddM_putAside_33
  · replace h := iteF h hc
    refine zz_aload_n C 0 ddM_putAside_9 rfl rfl ?_
    obtain ⟨h1, h⟩ := gdN h
    obtain ⟨h2, h⟩ := gdN h
    refine zz_getr C ddM_putAside_10 fl_M_58 rfl h1 (of_decide_eq_true h2) ?_
    refine zz_sipush (v := 3712) C ddM_putAside_13 (by decide) ?_
    refine zz_iload_n C 1 ddM_putAside_16 rfl rfl ?_
    refine zz_imul C ddM_putAside_17 ?_
    refine zz_iload_n C 2 ddM_putAside_18 rfl rfl ?_
    refine zz_iadd C ddM_putAside_19 ?_
    refine zz_aload_n C 0 ddM_putAside_20 rfl rfl ?_
    obtain ⟨h3, h⟩ := gdN h
    refine zz_getr C ddM_putAside_21 fl_M_31 rfl h1 (of_decide_eq_true h3) ?_
    refine zz_iload_n C 2 ddM_putAside_24 rfl rfl ?_
    obtain ⟨h4, h⟩ := gdN h
    refine zz_iaload C ddM_putAside_25 h4 ?_
    obtain ⟨h5, h⟩ := gdN h
    refine zz_iastore C ddM_putAside_26 h5 ?_
    refine zz_iinc (v := v2 + 1) (L1 := [(2, .int (v2 + 1)), (0, .ref v0), (1, .int v1)]) C 2 ddM_putAside_27 rfl rfl N (by decide) rfl ?_
    refine zz_goto (tgt := 2) C ddM_putAside_30 rfl ?_
    refine zz_loc (L1 := [(0, .ref v0), (1, .int v1), (2, .int (v2 + 1))]) [1, 2, 0] rfl ?_
    exact hK _ _ h
set_option maxHeartbeats 2000000 in
theorem zLM_putAside_2 {G : GXM} {X : CxM} (hG : GokM G) (C : CoM G X cM_putAside "HomeFreedModel") (N : mLM X = 3) {d : Nat} (hD : dpM X = d) (hd : 0 ≤ d) {v0 : Nat} {v1 : Int32} {q : (Mem)} : ∀ (f : Nat) (v2 : Int32) (M : Mem), LM_putAside_2 f v0 v1 v2 M = some q → (hr : ∀ r : Mem, q =  r → EnM G X none none r 0 0) → ZM G X 2 [(0, .ref v0), (1, .int v1), (2, .int v2)] [] M 0 0 := by
  intro f
  induction f with
  | zero => intro v2 M h; cases h
  | succ f ih =>
    intro v2 M h hr
    exact zBM_putAside_2 hG C N hD hd (K := LM_putAside_2 f) (q := q) (fun v2 M h => ih v2 M h hr) hr h
set_option maxHeartbeats 2000000 in
theorem xM_putAside {G : GXM} {l : Launch} (hG : GokM G) (d : Nat) (hd : 0 ≤ d) {v0 : Nat} {v1 : Int32} {M : Mem} {q : Mem} (h : fM_putAside v0 v1 M = some q) : ExM G l d 0 0 yM_putAside cM_putAside 3 none [.ref v0, .int v1] M none q := by
  refine ex_of hG (by decide) (Nat.le_of_ble_eq_true rfl) ?_
  intro X hl C E N hD hn
  show ZM G X 0 [(2, .int v2), (0, .ref v0), (1, .int v1)] [] M 0 0
  unfold fM_putAside at h
  refine zz_iconst (v := 0) C ddM_putAside_0 (by decide) ?_
  refine zz_istore_n (L1 := [(2, .int 0), (0, .ref v0), (1, .int v1)]) C ddM_putAside_1 rfl N (by decide) rfl ?_
  refine zz_loc (L1 := [(0, .ref v0), (1, .int v1), (2, .int 0)]) [1, 2, 0] rfl ?_
  obtain ⟨q1, hq1, h⟩ := bindN h
  refine zLM_putAside_2 hG C N hD hd 1000000 _ _ hq1 ?_
  · intro r2 eq1; subst eq1
    obtain rfl := Option.some.inj h
    exact E
theorem ddM_takeBack_0 : decode cM_takeBack 0 = .ok (.iconst 0, 1) := by decide +kernel
theorem ddM_takeBack_1 : decode cM_takeBack 1 = .ok (.istore_n 2, 1) := by decide +kernel
theorem ddM_takeBack_2 : decode cM_takeBack 2 = .ok (.iload_n 2, 1) := by decide +kernel
theorem ddM_takeBack_3 : decode cM_takeBack 3 = .ok (.sipush 3712, 3) := by decide +kernel
theorem ddM_takeBack_6 : decode cM_takeBack 6 = .ok (.if_icmp .ge 27, 3) := by decide +kernel
theorem ddM_takeBack_9 : decode cM_takeBack 9 = .ok (.aload_n 0, 1) := by decide +kernel
theorem ddM_takeBack_10 : decode cM_takeBack 10 = .ok (.getfield 31, 3) := by decide +kernel
theorem ddM_takeBack_13 : decode cM_takeBack 13 = .ok (.iload_n 2, 1) := by decide +kernel
theorem ddM_takeBack_14 : decode cM_takeBack 14 = .ok (.aload_n 0, 1) := by decide +kernel
theorem ddM_takeBack_15 : decode cM_takeBack 15 = .ok (.getfield 58, 3) := by decide +kernel
theorem ddM_takeBack_18 : decode cM_takeBack 18 = .ok (.sipush 3712, 3) := by decide +kernel
theorem ddM_takeBack_21 : decode cM_takeBack 21 = .ok (.iload_n 1, 1) := by decide +kernel
theorem ddM_takeBack_22 : decode cM_takeBack 22 = .ok (.imul, 1) := by decide +kernel
theorem ddM_takeBack_23 : decode cM_takeBack 23 = .ok (.iload_n 2, 1) := by decide +kernel
theorem ddM_takeBack_24 : decode cM_takeBack 24 = .ok (.iadd, 1) := by decide +kernel
theorem ddM_takeBack_25 : decode cM_takeBack 25 = .ok (.iaload, 1) := by decide +kernel
theorem ddM_takeBack_26 : decode cM_takeBack 26 = .ok (.iastore, 1) := by decide +kernel
theorem ddM_takeBack_27 : decode cM_takeBack 27 = .ok (.iinc 2 1, 3) := by decide +kernel
theorem ddM_takeBack_30 : decode cM_takeBack 30 = .ok (.goto (-28), 3) := by decide +kernel
theorem ddM_takeBack_33 : decode cM_takeBack 33 = .ok (.return_, 1) := by decide +kernel
set_option maxHeartbeats 2000000 in
theorem zBM_takeBack_2 {G : GXM} {X : CxM} (hG : GokM G) (C : CoM G X cM_takeBack "HomeFreedModel") (N : mLM X = 3) {d : Nat} (hD : dpM X = d) (hd : 0 ≤ d) {v0 : Nat} {v1 : Int32} {K : Nat → Int32 → Int32 → Mem → Option ((Mem))} {q : (Mem)} (hK : ∀ (v2 : Int32) (M : Mem), K v0 v1 v2 M = some q → ZM G X 2 [(0, .ref v0), (1, .int v1), (2, .int v2)] [] M 0 0) (hr : ∀ r : Mem, q =  r → EnM G X none none r 0 0) {v2 : Int32} {M : Mem} (h : BM_takeBack_2 K v0 v1 v2 M = some q) : ZM G X 2 [(0, .ref v0), (1, .int v1), (2, .int v2)] [] M 0 0 := by
  unfold BM_takeBack_2 at h
  refine zz_iload_n C 2 ddM_takeBack_2 rfl rfl ?_
  refine zz_sipush (v := 3712) C ddM_takeBack_3 (by decide) ?_
  refine zz_icmp_ge (tgt := 33) C ddM_takeBack_6 rfl (fun hc => ?_) (fun hc => ?_)
  · replace h := iteT h hc
    exact zz_vret C (hr _ (Option.some.inj h).symm) ddM_takeBack_33
  · replace h := iteF h hc
    refine zz_aload_n C 0 ddM_takeBack_9 rfl rfl ?_
    obtain ⟨h1, h⟩ := gdN h
    obtain ⟨h2, h⟩ := gdN h
    refine zz_getr C ddM_takeBack_10 fl_M_31 rfl h1 (of_decide_eq_true h2) ?_
    refine zz_iload_n C 2 ddM_takeBack_13 rfl rfl ?_
    refine zz_aload_n C 0 ddM_takeBack_14 rfl rfl ?_
    obtain ⟨h3, h⟩ := gdN h
    refine zz_getr C ddM_takeBack_15 fl_M_58 rfl h1 (of_decide_eq_true h3) ?_
    refine zz_sipush (v := 3712) C ddM_takeBack_18 (by decide) ?_
    refine zz_iload_n C 1 ddM_takeBack_21 rfl rfl ?_
    refine zz_imul C ddM_takeBack_22 ?_
    refine zz_iload_n C 2 ddM_takeBack_23 rfl rfl ?_
    refine zz_iadd C ddM_takeBack_24 ?_
    obtain ⟨h4, h⟩ := gdN h
    refine zz_iaload C ddM_takeBack_25 h4 ?_
    obtain ⟨h5, h⟩ := gdN h
    refine zz_iastore C ddM_takeBack_26 h5 ?_
    refine zz_iinc (v := v2 + 1) (L1 := [(2, .int (v2 + 1)), (0, .ref v0), (1, .int v1)]) C 2 ddM_takeBack_27 rfl rfl N (by decide) rfl ?_
    refine zz_goto (tgt := 2) C ddM_takeBack_30 rfl ?_
    refine zz_loc (L1 := [(0, .ref v0), (1, .int v1), (2, .int (v2 + 1))]) [1, 2, 0] rfl ?_
    exact hK _ _ h
set_option maxHeartbeats 2000000 in
theorem zLM_takeBack_2 {G : GXM} {X : CxM} (hG : GokM G) (C : CoM G X cM_takeBack "HomeFreedModel") (N : mLM X = 3) {d : Nat} (hD : dpM X = d) (hd : 0 ≤ d) {v0 : Nat} {v1 : Int32} {q : (Mem)} : ∀ (f : Nat) (v2 : Int32) (M : Mem), LM_takeBack_2 f v0 v1 v2 M = some q → (hr : ∀ r : Mem, q =  r → EnM G X none none r 0 0) → ZM G X 2 [(0, .ref v0), (1, .int v1), (2, .int v2)] [] M 0 0 := by
  intro f
  induction f with
  | zero => intro v2 M h; cases h
  | succ f ih =>
    intro v2 M h hr
    exact zBM_takeBack_2 hG C N hD hd (K := LM_takeBack_2 f) (q := q) (fun v2 M h => ih v2 M h hr) hr h
set_option maxHeartbeats 2000000 in
theorem xM_takeBack {G : GXM} {l : Launch} (hG : GokM G) (d : Nat) (hd : 0 ≤ d) {v0 : Nat} {v1 : Int32} {M : Mem} {q : Mem} (h : fM_takeBack v0 v1 M = some q) : ExM G l d 0 0 yM_takeBack cM_takeBack 3 none [.ref v0, .int v1] M none q := by
  refine ex_of hG (by decide) (Nat.le_of_ble_eq_true rfl) ?_
  intro X hl C E N hD hn
  show ZM G X 0 [(2, .int v2), (0, .ref v0), (1, .int v1)] [] M 0 0
  unfold fM_takeBack at h
  refine zz_iconst (v := 0) C ddM_takeBack_0 (by decide) ?_
  refine zz_istore_n (L1 := [(2, .int 0), (0, .ref v0), (1, .int v1)]) C ddM_takeBack_1 rfl N (by decide) rfl ?_
  refine zz_loc (L1 := [(0, .ref v0), (1, .int v1), (2, .int 0)]) [1, 2, 0] rfl ?_
  obtain ⟨q1, hq1, h⟩ := bindN h
  refine zLM_takeBack_2 hG C N hD hd 1000000 _ _ hq1 ?_
  · intro r2 eq1; subst eq1
    obtain rfl := Option.some.inj h
    exact E
theorem ddM_would_0 : decode cM_would 0 = .ok (.aload_n 0, 1) := by decide +kernel
theorem ddM_would_1 : decode cM_would 1 = .ok (.iload_n 1, 1) := by decide +kernel
theorem ddM_would_2 : decode cM_would 2 = .ok (.invokevirtual 260, 3) := by decide +kernel
theorem ddM_would_5 : decode cM_would 5 = .ok (.ifCond .eq 11, 3) := by decide +kernel
theorem ddM_would_8 : decode cM_would 8 = .ok (.aload_n 0, 1) := by decide +kernel
theorem ddM_would_9 : decode cM_would 9 = .ok (.iload_n 2, 1) := by decide +kernel
theorem ddM_would_10 : decode cM_would 10 = .ok (.invokevirtual 312, 3) := by decide +kernel
theorem ddM_would_13 : decode cM_would 13 = .ok (.ifCond .ne 5, 3) := by decide +kernel
theorem ddM_would_16 : decode cM_would 16 = .ok (.iconst (-1), 1) := by decide +kernel
theorem ddM_would_17 : decode cM_would 17 = .ok (.ireturn, 1) := by decide +kernel
theorem ddM_would_18 : decode cM_would 18 = .ok (.aload_n 0, 1) := by decide +kernel
theorem ddM_would_19 : decode cM_would 19 = .ok (.iconst 0, 1) := by decide +kernel
theorem ddM_would_20 : decode cM_would 20 = .ok (.invokevirtual 351, 3) := by decide +kernel
theorem ddM_would_23 : decode cM_would 23 = .ok (.aload_n 0, 1) := by decide +kernel
theorem ddM_would_24 : decode cM_would 24 = .ok (.iload_n 1, 1) := by decide +kernel
theorem ddM_would_25 : decode cM_would 25 = .ok (.aload_n 0, 1) := by decide +kernel
theorem ddM_would_26 : decode cM_would 26 = .ok (.iload_n 2, 1) := by decide +kernel
theorem ddM_would_27 : decode cM_would 27 = .ok (.invokevirtual 263, 3) := by decide +kernel
theorem ddM_would_30 : decode cM_would 30 = .ok (.invokevirtual 275, 3) := by decide +kernel
theorem ddM_would_33 : decode cM_would 33 = .ok (.iconst (-1), 1) := by decide +kernel
theorem ddM_would_34 : decode cM_would 34 = .ok (.if_icmp .eq 7, 3) := by decide +kernel
theorem ddM_would_37 : decode cM_would 37 = .ok (.iconst 1, 1) := by decide +kernel
theorem ddM_would_38 : decode cM_would 38 = .ok (.goto 4, 3) := by decide +kernel
theorem ddM_would_41 : decode cM_would 41 = .ok (.iconst 0, 1) := by decide +kernel
theorem ddM_would_42 : decode cM_would 42 = .ok (.istore_n 3, 1) := by decide +kernel
theorem ddM_would_43 : decode cM_would 43 = .ok (.aload_n 0, 1) := by decide +kernel
theorem ddM_would_44 : decode cM_would 44 = .ok (.iconst 0, 1) := by decide +kernel
theorem ddM_would_45 : decode cM_would 45 = .ok (.invokevirtual 354, 3) := by decide +kernel
theorem ddM_would_48 : decode cM_would 48 = .ok (.iload_n 3, 1) := by decide +kernel
theorem ddM_would_49 : decode cM_would 49 = .ok (.ifCond .eq 10, 3) := by decide +kernel
theorem ddM_would_52 : decode cM_would 52 = .ok (.aload_n 0, 1) := by decide +kernel
theorem ddM_would_53 : decode cM_would 53 = .ok (.getfield 217, 3) := by decide +kernel
theorem ddM_would_56 : decode cM_would 56 = .ok (.goto 4, 3) := by decide +kernel
theorem ddM_would_59 : decode cM_would 59 = .ok (.iconst (-1), 1) := by decide +kernel
theorem ddM_would_60 : decode cM_would 60 = .ok (.ireturn, 1) := by decide +kernel
set_option maxHeartbeats 2000000 in
theorem zBM_would_60 {G : GXM} {X : CxM} (hG : GokM G) (C : CoM G X cM_would "HomeFreedModel") (N : mLM X = 4) {d : Nat} (hD : dpM X = d) (hd : 8 ≤ d)  {q : Int32 × Mem} (E : EnM G X (some .int) (some (.int q.1)) q.2 0 0) {w0 : Int32} {M : Mem} (h : BM_would_60 w0 M = some q) : ZM G X 60 [] [.int w0] M 0 0 := by
  unfold BM_would_60 at h
  obtain rfl := Option.some.inj h
  exact zz_iret C E ddM_would_60
set_option maxHeartbeats 2000000 in
theorem zBM_would_42 {G : GXM} {X : CxM} (hG : GokM G) (C : CoM G X cM_would "HomeFreedModel") (N : mLM X = 4) {d : Nat} (hD : dpM X = d) (hd : 8 ≤ d)  {q : Int32 × Mem} (E : EnM G X (some .int) (some (.int q.1)) q.2 0 0) {v0 : Nat} {w0 : Int32} {M : Mem} (h : BM_would_42 v0 w0 M = some q) : ZM G X 42 [(0, .ref v0)] [.int w0] M 0 0 := by
  unfold BM_would_42 at h
  refine zz_istore_n (L1 := [(3, .int w0), (0, .ref v0)]) C ddM_would_42 rfl N (by decide) rfl ?_
  refine zz_aload_n C 1 ddM_would_43 rfl rfl ?_
  refine zz_iconst (v := 0) C ddM_would_44 (by decide) ?_
  obtain ⟨h2, h⟩ := gdN h
  obtain ⟨q1, hq1, h⟩ := bindN h
  refine zz_callV0 (As := [.int 0]) C ddM_would_45 wd_1678 my_M_takeBack mv_M_takeBack ⟨_, rfl, rfl⟩ (xM_takeBack hG (d - 1) (by omega) hq1) (by omega) h2 rfl rfl (Nat.le_of_ble_eq_true rfl) ?_
  refine zz_iload_n C 0 ddM_would_48 rfl rfl ?_
  refine zz_if_eq (tgt := 59) C ddM_would_49 rfl (fun hc => ?_) (fun hc => ?_)
  · replace h := iteT h hc
    refine zz_iconst (v := (-1)) C ddM_would_59 (by decide) ?_
    refine zz_loc (L1 := []) [] rfl ?_
    exact zBM_would_60 hG C N hD hd E h
  · replace h := iteF h hc
    refine zz_aload_n C 1 ddM_would_52 rfl rfl ?_
    obtain ⟨h3, h⟩ := gdN h
    refine zz_geti C ddM_would_53 fl_M_217 rfl h3 ?_
    refine zz_goto (tgt := 60) C ddM_would_56 rfl ?_
    refine zz_loc (L1 := []) [] rfl ?_
    exact zBM_would_60 hG C N hD hd E h
set_option maxHeartbeats 2000000 in
theorem zBM_would_16 {G : GXM} {X : CxM} (hG : GokM G) (C : CoM G X cM_would "HomeFreedModel") (N : mLM X = 4) {d : Nat} (hD : dpM X = d) (hd : 8 ≤ d)  {q : Int32 × Mem} (E : EnM G X (some .int) (some (.int q.1)) q.2 0 0) {M : Mem} (h : BM_would_16 M = some q) : ZM G X 16 [] [] M 0 0 := by
  unfold BM_would_16 at h
  refine zz_iconst (v := (-1)) C ddM_would_16 (by decide) ?_
  obtain rfl := Option.some.inj h
  exact zz_iret C E ddM_would_17
set_option maxHeartbeats 2000000 in
theorem xM_would {G : GXM} {l : Launch} (hG : GokM G) (d : Nat) (hd : 8 ≤ d) {v0 : Nat} {v1 : Int32} {v2 : Int32} {M : Mem} {q : Int32 × Mem} (h : fM_would v0 v1 v2 M = some q) : ExM G l d 0 0 yM_would cM_would 4 (some .int) [.ref v0, .int v1, .int v2] M (some (.int q.1)) q.2 := by
  refine ex_of hG (by decide) (Nat.le_of_ble_eq_true rfl) ?_
  intro X hl C E N hD hn
  show ZM G X 0 [(0, .ref v0), (1, .int v1), (2, .int v2)] [] M 0 0
  unfold fM_would at h
  refine zz_aload_n C 0 ddM_would_0 rfl rfl ?_
  refine zz_iload_n C 1 ddM_would_1 rfl rfl ?_
  obtain ⟨h2, h⟩ := gdN h
  obtain ⟨q1, hq1, h⟩ := bindN h
  refine zz_callV0 (As := [.int v1]) C ddM_would_2 wd_1463 my_M_doesLive mv_M_doesLive ⟨_, rfl, rfl⟩ (xM_doesLive hG (d - 1) (by omega) hq1) (by omega) h2 rfl rfl (Nat.le_of_ble_eq_true rfl) ?_
  refine zz_if_eq (tgt := 16) C ddM_would_5 rfl (fun hc => ?_) (fun hc => ?_)
  · replace h := iteT h hc
    refine zz_loc (L1 := []) [] rfl ?_
    exact zBM_would_16 hG C N hD hd E h
  · replace h := iteF h hc
    refine zz_aload_n C 0 ddM_would_8 rfl rfl ?_
    refine zz_iload_n C 2 ddM_would_9 rfl rfl ?_
    obtain ⟨h4, h⟩ := gdN h
    obtain ⟨q3, hq3, h⟩ := bindN h
    refine zz_callV0 (As := [.int v2]) C ddM_would_10 wd_1455 my_M_isAsked mv_M_isAsked ⟨_, rfl, rfl⟩ (xM_isAsked hG (d - 1) (by omega) hq3) (by omega) h4 rfl rfl (Nat.le_of_ble_eq_true rfl) ?_
    refine zz_if_ne (tgt := 18) C ddM_would_13 rfl (fun hc => ?_) (fun hc => ?_)
    · replace h := iteF h hc
      refine zz_aload_n C 0 ddM_would_18 rfl rfl ?_
      refine zz_iconst (v := 0) C ddM_would_19 (by decide) ?_
      obtain ⟨h6, h⟩ := gdN h
      obtain ⟨q5, hq5, h⟩ := bindN h
      refine zz_callV0 (As := [.int 0]) C ddM_would_20 wd_1674 my_M_putAside mv_M_putAside ⟨_, rfl, rfl⟩ (xM_putAside hG (d - 1) (by omega) hq5) (by omega) h6 rfl rfl (Nat.le_of_ble_eq_true rfl) ?_
      refine zz_aload_n C 0 ddM_would_23 rfl rfl ?_
      refine zz_iload_n C 1 ddM_would_24 rfl rfl ?_
      refine zz_aload_n C 0 ddM_would_25 rfl rfl ?_
      refine zz_iload_n C 2 ddM_would_26 rfl rfl ?_
      obtain ⟨h8, h⟩ := gdN h
      obtain ⟨q7, hq7, h⟩ := bindN h
      refine zz_callV0 (As := [.int v2]) C ddM_would_27 wd_1459 my_M_classFor mv_M_classFor ⟨_, rfl, rfl⟩ (xM_classFor hG (d - 1) (by omega) hq7) (by omega) h8 rfl rfl (Nat.le_of_ble_eq_true rfl) ?_
      obtain ⟨h10, h⟩ := gdN h
      obtain ⟨q9, hq9, h⟩ := bindN h
      refine zz_callV0 (As := [.int v1, .int q7.1]) C ddM_would_30 wd_1483 my_M_getNow mv_M_getNow ⟨_, rfl, rfl⟩ (xM_getNow hG (d - 1) (by omega) hq9) (by omega) h10 rfl rfl (Nat.le_of_ble_eq_true rfl) ?_
      refine zz_iconst (v := (-1)) C ddM_would_33 (by decide) ?_
      refine zz_icmp_eq (tgt := 41) C ddM_would_34 rfl (fun hc => ?_) (fun hc => ?_)
      · replace h := iteT h hc
        refine zz_iconst (v := 0) C ddM_would_41 (by decide) ?_
        refine zz_loc (L1 := [(0, .ref v0)]) [0] rfl ?_
        exact zBM_would_42 hG C N hD hd E h
      · replace h := iteF h hc
        refine zz_iconst (v := 1) C ddM_would_37 (by decide) ?_
        refine zz_goto (tgt := 42) C ddM_would_38 rfl ?_
        refine zz_loc (L1 := [(0, .ref v0)]) [0] rfl ?_
        exact zBM_would_42 hG C N hD hd E h
    · replace h := iteT h hc
      refine zz_loc (L1 := []) [] rfl ?_
      exact zBM_would_16 hG C N hD hd E h
theorem ddM_placeIn_0 : decode cM_placeIn 0 = .ok (.iconst 1, 1) := by decide +kernel
theorem ddM_placeIn_1 : decode cM_placeIn 1 = .ok (.istore_n 3, 1) := by decide +kernel
theorem ddM_placeIn_2 : decode cM_placeIn 2 = .ok (.iload_n 3, 1) := by decide +kernel
theorem ddM_placeIn_3 : decode cM_placeIn 3 = .ok (.aload_n 0, 1) := by decide +kernel
theorem ddM_placeIn_4 : decode cM_placeIn 4 = .ok (.getfield 31, 3) := by decide +kernel
theorem ddM_placeIn_7 : decode cM_placeIn 7 = .ok (.iload_n 1, 1) := by decide +kernel
theorem ddM_placeIn_8 : decode cM_placeIn 8 = .ok (.iaload, 1) := by decide +kernel
theorem ddM_placeIn_9 : decode cM_placeIn 9 = .ok (.if_icmp .gt 25, 3) := by decide +kernel
theorem ddM_placeIn_12 : decode cM_placeIn 12 = .ok (.aload_n 0, 1) := by decide +kernel
theorem ddM_placeIn_13 : decode cM_placeIn 13 = .ok (.getfield 31, 3) := by decide +kernel
theorem ddM_placeIn_16 : decode cM_placeIn 16 = .ok (.iload_n 1, 1) := by decide +kernel
theorem ddM_placeIn_17 : decode cM_placeIn 17 = .ok (.iload_n 3, 1) := by decide +kernel
theorem ddM_placeIn_18 : decode cM_placeIn 18 = .ok (.iadd, 1) := by decide +kernel
theorem ddM_placeIn_19 : decode cM_placeIn 19 = .ok (.iaload, 1) := by decide +kernel
theorem ddM_placeIn_20 : decode cM_placeIn 20 = .ok (.iload_n 2, 1) := by decide +kernel
theorem ddM_placeIn_21 : decode cM_placeIn 21 = .ok (.if_icmp .ne 7, 3) := by decide +kernel
theorem ddM_placeIn_24 : decode cM_placeIn 24 = .ok (.iload_n 3, 1) := by decide +kernel
theorem ddM_placeIn_25 : decode cM_placeIn 25 = .ok (.iconst 1, 1) := by decide +kernel
theorem ddM_placeIn_26 : decode cM_placeIn 26 = .ok (.isub, 1) := by decide +kernel
theorem ddM_placeIn_27 : decode cM_placeIn 27 = .ok (.ireturn, 1) := by decide +kernel
theorem ddM_placeIn_28 : decode cM_placeIn 28 = .ok (.iinc 3 1, 3) := by decide +kernel
theorem ddM_placeIn_31 : decode cM_placeIn 31 = .ok (.goto (-29), 3) := by decide +kernel
theorem ddM_placeIn_34 : decode cM_placeIn 34 = .ok (.iconst (-1), 1) := by decide +kernel
theorem ddM_placeIn_35 : decode cM_placeIn 35 = .ok (.ireturn, 1) := by decide +kernel
set_option maxHeartbeats 2000000 in
theorem zBM_placeIn_2 {G : GXM} {X : CxM} (hG : GokM G) (C : CoM G X cM_placeIn "HomeFreedModel") (N : mLM X = 4) {d : Nat} (hD : dpM X = d) (hd : 0 ≤ d) {v0 : Nat} {v1 : Int32} {v2 : Int32} {K : Nat → Int32 → Int32 → Int32 → Mem → Option ((Int32 × Mem))} {q : (Int32 × Mem)} (hK : ∀ (v3 : Int32) (M : Mem), K v0 v1 v2 v3 M = some q → ZM G X 2 [(0, .ref v0), (1, .int v1), (2, .int v2), (3, .int v3)] [] M 0 0) (hr : ∀ r : Int32 × Mem, q =  r → EnM G X (some .int) (some (.int r.1)) r.2 0 0) {v3 : Int32} {M : Mem} (h : BM_placeIn_2 K v0 v1 v2 v3 M = some q) : ZM G X 2 [(0, .ref v0), (1, .int v1), (2, .int v2), (3, .int v3)] [] M 0 0 := by
  unfold BM_placeIn_2 at h
  refine zz_iload_n C 3 ddM_placeIn_2 rfl rfl ?_
  refine zz_aload_n C 0 ddM_placeIn_3 rfl rfl ?_
  obtain ⟨h1, h⟩ := gdN h
  obtain ⟨h2, h⟩ := gdN h
  refine zz_getr C ddM_placeIn_4 fl_M_31 rfl h1 (of_decide_eq_true h2) ?_
  refine zz_iload_n C 1 ddM_placeIn_7 rfl rfl ?_
  obtain ⟨h3, h⟩ := gdN h
  refine zz_iaload C ddM_placeIn_8 h3 ?_
  refine zz_icmp_gt (tgt := 34) C ddM_placeIn_9 rfl (fun hc => ?_) (fun hc => ?_)
  · replace h := iteT h hc
    refine zz_iconst (v := (-1)) C ddM_placeIn_34 (by decide) ?_
    exact zz_iret C (hr _ (Option.some.inj h).symm) ddM_placeIn_35
  · replace h := iteF h hc
    refine zz_aload_n C 0 ddM_placeIn_12 rfl rfl ?_
    refine zz_getr C ddM_placeIn_13 fl_M_31 rfl h1 (of_decide_eq_true h2) ?_
    refine zz_iload_n C 1 ddM_placeIn_16 rfl rfl ?_
    refine zz_iload_n C 3 ddM_placeIn_17 rfl rfl ?_
    refine zz_iadd C ddM_placeIn_18 ?_
    obtain ⟨h4, h⟩ := gdN h
    refine zz_iaload C ddM_placeIn_19 h4 ?_
    refine zz_iload_n C 2 ddM_placeIn_20 rfl rfl ?_
    refine zz_icmp_ne (tgt := 28) C ddM_placeIn_21 rfl (fun hc => ?_) (fun hc => ?_)
    · replace h := iteF h hc
      refine zz_iinc (v := v3 + 1) (L1 := [(3, .int (v3 + 1)), (0, .ref v0), (1, .int v1), (2, .int v2)]) C 3 ddM_placeIn_28 rfl rfl N (by decide) rfl ?_
      refine zz_goto (tgt := 2) C ddM_placeIn_31 rfl ?_
      refine zz_loc (L1 := [(0, .ref v0), (1, .int v1), (2, .int v2), (3, .int (v3 + 1))]) [1, 2, 3, 0] rfl ?_
      exact hK _ _ h
    · replace h := iteT h hc
      refine zz_iload_n C 3 ddM_placeIn_24 rfl rfl ?_
      refine zz_iconst (v := 1) C ddM_placeIn_25 (by decide) ?_
      refine zz_isub C ddM_placeIn_26 ?_
      exact zz_iret C (hr _ (Option.some.inj h).symm) ddM_placeIn_27
set_option maxHeartbeats 2000000 in
theorem zLM_placeIn_2 {G : GXM} {X : CxM} (hG : GokM G) (C : CoM G X cM_placeIn "HomeFreedModel") (N : mLM X = 4) {d : Nat} (hD : dpM X = d) (hd : 0 ≤ d) {v0 : Nat} {v1 : Int32} {v2 : Int32} {q : (Int32 × Mem)} : ∀ (f : Nat) (v3 : Int32) (M : Mem), LM_placeIn_2 f v0 v1 v2 v3 M = some q → (hr : ∀ r : Int32 × Mem, q =  r → EnM G X (some .int) (some (.int r.1)) r.2 0 0) → ZM G X 2 [(0, .ref v0), (1, .int v1), (2, .int v2), (3, .int v3)] [] M 0 0 := by
  intro f
  induction f with
  | zero => intro v3 M h; cases h
  | succ f ih =>
    intro v3 M h hr
    exact zBM_placeIn_2 hG C N hD hd (K := LM_placeIn_2 f) (q := q) (fun v3 M h => ih v3 M h hr) hr h
set_option maxHeartbeats 2000000 in
theorem xM_placeIn {G : GXM} {l : Launch} (hG : GokM G) (d : Nat) (hd : 0 ≤ d) {v0 : Nat} {v1 : Int32} {v2 : Int32} {M : Mem} {q : Int32 × Mem} (h : fM_placeIn v0 v1 v2 M = some q) : ExM G l d 0 0 yM_placeIn cM_placeIn 4 (some .int) [.ref v0, .int v1, .int v2] M (some (.int q.1)) q.2 := by
  refine ex_of hG (by decide) (Nat.le_of_ble_eq_true rfl) ?_
  intro X hl C E N hD hn
  show ZM G X 0 [(3, .int v3), (0, .ref v0), (1, .int v1), (2, .int v2)] [] M 0 0
  unfold fM_placeIn at h
  refine zz_iconst (v := 1) C ddM_placeIn_0 (by decide) ?_
  refine zz_istore_n (L1 := [(3, .int 1), (0, .ref v0), (1, .int v1), (2, .int v2)]) C ddM_placeIn_1 rfl N (by decide) rfl ?_
  refine zz_loc (L1 := [(0, .ref v0), (1, .int v1), (2, .int v2), (3, .int 1)]) [1, 2, 3, 0] rfl ?_
  obtain ⟨q1, hq1, h⟩ := bindN h
  refine zLM_placeIn_2 hG C N hD hd 1000000 _ _ hq1 ?_
  · intro r2 eq1; subst eq1
    obtain rfl := Option.some.inj h
    exact E
theorem ddM_where_0 : decode cM_where 0 = .ok (.aload_n 0, 1) := by decide +kernel
theorem ddM_where_1 : decode cM_where 1 = .ok (.iload_n 1, 1) := by decide +kernel
theorem ddM_where_2 : decode cM_where 2 = .ok (.invokevirtual 306, 3) := by decide +kernel
theorem ddM_where_5 : decode cM_where 5 = .ok (.ifCond .eq 12, 3) := by decide +kernel
theorem ddM_where_8 : decode cM_where 8 = .ok (.iload_n 2, 1) := by decide +kernel
theorem ddM_where_9 : decode cM_where 9 = .ok (.iconst 0, 1) := by decide +kernel
theorem ddM_where_10 : decode cM_where 10 = .ok (.iconst 3, 1) := by decide +kernel
theorem ddM_where_11 : decode cM_where 11 = .ok (.invokestatic 75, 3) := by decide +kernel
theorem ddM_where_14 : decode cM_where 14 = .ok (.ifCond .ne 5, 3) := by decide +kernel
theorem ddM_where_17 : decode cM_where 17 = .ok (.iconst (-1), 1) := by decide +kernel
theorem ddM_where_18 : decode cM_where 18 = .ok (.ireturn, 1) := by decide +kernel
theorem ddM_where_19 : decode cM_where 19 = .ok (.iload_n 1, 1) := by decide +kernel
theorem ddM_where_20 : decode cM_where 20 = .ok (.bipush 100, 2) := by decide +kernel
theorem ddM_where_22 : decode cM_where 22 = .ok (.idiv, 1) := by decide +kernel
theorem ddM_where_23 : decode cM_where 23 = .ok (.istore_n 3, 1) := by decide +kernel
theorem ddM_where_24 : decode cM_where 24 = .ok (.iload_n 1, 1) := by decide +kernel
theorem ddM_where_25 : decode cM_where 25 = .ok (.bipush 100, 2) := by decide +kernel
theorem ddM_where_27 : decode cM_where 27 = .ok (.irem, 1) := by decide +kernel
theorem ddM_where_28 : decode cM_where 28 = .ok (.istore 4, 2) := by decide +kernel
theorem ddM_where_30 : decode cM_where 30 = .ok (.aload_n 0, 1) := by decide +kernel
theorem ddM_where_31 : decode cM_where 31 = .ok (.iload_n 1, 1) := by decide +kernel
theorem ddM_where_32 : decode cM_where 32 = .ok (.invokevirtual 309, 3) := by decide +kernel
theorem ddM_where_35 : decode cM_where 35 = .ok (.ifCond .eq 13, 3) := by decide +kernel
theorem ddM_where_38 : decode cM_where 38 = .ok (.iload_n 2, 1) := by decide +kernel
theorem ddM_where_39 : decode cM_where 39 = .ok (.ifCond .ne 7, 3) := by decide +kernel
theorem ddM_where_42 : decode cM_where 42 = .ok (.iconst 0, 1) := by decide +kernel
theorem ddM_where_43 : decode cM_where 43 = .ok (.goto 4, 3) := by decide +kernel
theorem ddM_where_46 : decode cM_where 46 = .ok (.iconst (-1), 1) := by decide +kernel
theorem ddM_where_47 : decode cM_where 47 = .ok (.ireturn, 1) := by decide +kernel
theorem ddM_where_48 : decode cM_where 48 = .ok (.iconst 0, 1) := by decide +kernel
theorem ddM_where_49 : decode cM_where 49 = .ok (.istore 5, 2) := by decide +kernel
theorem ddM_where_51 : decode cM_where 51 = .ok (.iload 5, 2) := by decide +kernel
theorem ddM_where_53 : decode cM_where 53 = .ok (.iconst 3, 1) := by decide +kernel
theorem ddM_where_54 : decode cM_where 54 = .ok (.if_icmp .ge 52, 3) := by decide +kernel
theorem ddM_where_57 : decode cM_where 57 = .ok (.aload_n 0, 1) := by decide +kernel
theorem ddM_where_58 : decode cM_where 58 = .ok (.iload_n 3, 1) := by decide +kernel
theorem ddM_where_59 : decode cM_where 59 = .ok (.iload 5, 2) := by decide +kernel
theorem ddM_where_61 : decode cM_where 61 = .ok (.invokestatic 173, 3) := by decide +kernel
theorem ddM_where_64 : decode cM_where 64 = .ok (.iload 4, 2) := by decide +kernel
theorem ddM_where_66 : decode cM_where 66 = .ok (.invokevirtual 357, 3) := by decide +kernel
theorem ddM_where_69 : decode cM_where 69 = .ok (.istore 6, 2) := by decide +kernel
theorem ddM_where_71 : decode cM_where 71 = .ok (.iload 6, 2) := by decide +kernel
theorem ddM_where_73 : decode cM_where 73 = .ok (.iconst (-1), 1) := by decide +kernel
theorem ddM_where_74 : decode cM_where 74 = .ok (.if_icmp .eq 26, 3) := by decide +kernel
theorem ddM_where_77 : decode cM_where 77 = .ok (.iload_n 2, 1) := by decide +kernel
theorem ddM_where_78 : decode cM_where 78 = .ok (.ifCond .ne 10, 3) := by decide +kernel
theorem ddM_where_81 : decode cM_where 81 = .ok (.iload 5, 2) := by decide +kernel
theorem ddM_where_83 : decode cM_where 83 = .ok (.iconst 1, 1) := by decide +kernel
theorem ddM_where_84 : decode cM_where 84 = .ok (.iadd, 1) := by decide +kernel
theorem ddM_where_85 : decode cM_where 85 = .ok (.goto 14, 3) := by decide +kernel
theorem ddM_where_88 : decode cM_where 88 = .ok (.iload_n 2, 1) := by decide +kernel
theorem ddM_where_89 : decode cM_where 89 = .ok (.iconst 1, 1) := by decide +kernel
theorem ddM_where_90 : decode cM_where 90 = .ok (.if_icmp .ne 8, 3) := by decide +kernel
theorem ddM_where_93 : decode cM_where 93 = .ok (.iload 6, 2) := by decide +kernel
theorem ddM_where_95 : decode cM_where 95 = .ok (.goto 4, 3) := by decide +kernel
theorem ddM_where_98 : decode cM_where 98 = .ok (.iconst (-1), 1) := by decide +kernel
theorem ddM_where_99 : decode cM_where 99 = .ok (.ireturn, 1) := by decide +kernel
theorem ddM_where_100 : decode cM_where 100 = .ok (.iinc 5 1, 3) := by decide +kernel
theorem ddM_where_103 : decode cM_where 103 = .ok (.goto (-52), 3) := by decide +kernel
theorem ddM_where_106 : decode cM_where 106 = .ok (.iconst 0, 1) := by decide +kernel
theorem ddM_where_107 : decode cM_where 107 = .ok (.istore 5, 2) := by decide +kernel
theorem ddM_where_109 : decode cM_where 109 = .ok (.iload 5, 2) := by decide +kernel
theorem ddM_where_111 : decode cM_where 111 = .ok (.aload_n 0, 1) := by decide +kernel
theorem ddM_where_112 : decode cM_where 112 = .ok (.getfield 19, 3) := by decide +kernel
theorem ddM_where_115 : decode cM_where 115 = .ok (.iconst 0, 1) := by decide +kernel
theorem ddM_where_116 : decode cM_where 116 = .ok (.iaload, 1) := by decide +kernel
theorem ddM_where_117 : decode cM_where 117 = .ok (.if_icmp .ge 76, 3) := by decide +kernel
theorem ddM_where_120 : decode cM_where 120 = .ok (.aload_n 0, 1) := by decide +kernel
theorem ddM_where_121 : decode cM_where 121 = .ok (.iload 5, 2) := by decide +kernel
theorem ddM_where_123 : decode cM_where 123 = .ok (.iload_n 3, 1) := by decide +kernel
theorem ddM_where_124 : decode cM_where 124 = .ok (.invokestatic 238, 3) := by decide +kernel
theorem ddM_where_127 : decode cM_where 127 = .ok (.iload 4, 2) := by decide +kernel
theorem ddM_where_129 : decode cM_where 129 = .ok (.invokevirtual 357, 3) := by decide +kernel
theorem ddM_where_132 : decode cM_where 132 = .ok (.istore 6, 2) := by decide +kernel
theorem ddM_where_134 : decode cM_where 134 = .ok (.iload 6, 2) := by decide +kernel
theorem ddM_where_136 : decode cM_where 136 = .ok (.iconst (-1), 1) := by decide +kernel
theorem ddM_where_137 : decode cM_where 137 = .ok (.if_icmp .eq 50, 3) := by decide +kernel
theorem ddM_where_140 : decode cM_where 140 = .ok (.iload_n 2, 1) := by decide +kernel
theorem ddM_where_141 : decode cM_where 141 = .ok (.ifCond .ne 7, 3) := by decide +kernel
theorem ddM_where_144 : decode cM_where 144 = .ok (.iconst 4, 1) := by decide +kernel
theorem ddM_where_145 : decode cM_where 145 = .ok (.goto 41, 3) := by decide +kernel
theorem ddM_where_148 : decode cM_where 148 = .ok (.iload_n 2, 1) := by decide +kernel
theorem ddM_where_149 : decode cM_where 149 = .ok (.iconst 1, 1) := by decide +kernel
theorem ddM_where_150 : decode cM_where 150 = .ok (.if_icmp .ne 8, 3) := by decide +kernel
theorem ddM_where_153 : decode cM_where 153 = .ok (.iload 6, 2) := by decide +kernel
theorem ddM_where_155 : decode cM_where 155 = .ok (.goto 31, 3) := by decide +kernel
theorem ddM_where_158 : decode cM_where 158 = .ok (.iload_n 2, 1) := by decide +kernel
theorem ddM_where_159 : decode cM_where 159 = .ok (.iconst 2, 1) := by decide +kernel
theorem ddM_where_160 : decode cM_where 160 = .ok (.if_icmp .ne 8, 3) := by decide +kernel
theorem ddM_where_163 : decode cM_where 163 = .ok (.iload 5, 2) := by decide +kernel
theorem ddM_where_165 : decode cM_where 165 = .ok (.goto 21, 3) := by decide +kernel
theorem ddM_where_168 : decode cM_where 168 = .ok (.aload_n 0, 1) := by decide +kernel
theorem ddM_where_169 : decode cM_where 169 = .ok (.getfield 19, 3) := by decide +kernel
theorem ddM_where_172 : decode cM_where 172 = .ok (.iconst 3, 1) := by decide +kernel
theorem ddM_where_173 : decode cM_where 173 = .ok (.iaload, 1) := by decide +kernel
theorem ddM_where_174 : decode cM_where 174 = .ok (.aload_n 0, 1) := by decide +kernel
theorem ddM_where_175 : decode cM_where 175 = .ok (.getfield 31, 3) := by decide +kernel
theorem ddM_where_178 : decode cM_where 178 = .ok (.iload 5, 2) := by decide +kernel
theorem ddM_where_180 : decode cM_where 180 = .ok (.iload_n 3, 1) := by decide +kernel
theorem ddM_where_181 : decode cM_where 181 = .ok (.invokestatic 238, 3) := by decide +kernel
theorem ddM_where_184 : decode cM_where 184 = .ok (.iaload, 1) := by decide +kernel
theorem ddM_where_185 : decode cM_where 185 = .ok (.isub, 1) := by decide +kernel
theorem ddM_where_186 : decode cM_where 186 = .ok (.ireturn, 1) := by decide +kernel
theorem ddM_where_187 : decode cM_where 187 = .ok (.iinc 5 1, 3) := by decide +kernel
theorem ddM_where_190 : decode cM_where 190 = .ok (.goto (-81), 3) := by decide +kernel
theorem ddM_where_193 : decode cM_where 193 = .ok (.iconst (-1), 1) := by decide +kernel
theorem ddM_where_194 : decode cM_where 194 = .ok (.ireturn, 1) := by decide +kernel
set_option maxHeartbeats 2000000 in
theorem zBM_where_186 {G : GXM} {X : CxM} (hG : GokM G) (C : CoM G X cM_where "HomeFreedModel") (N : mLM X = 7) {d : Nat} (hD : dpM X = d) (hd : 3 ≤ d)  {q : Int32 × Mem} (E : EnM G X (some .int) (some (.int q.1)) q.2 0 0) {w0 : Int32} {M : Mem} (h : BM_where_186 w0 M = some q) : ZM G X 186 [] [.int w0] M 0 0 := by
  unfold BM_where_186 at h
  obtain rfl := Option.some.inj h
  exact zz_iret C E ddM_where_186
set_option maxHeartbeats 2000000 in
theorem zBM_where_109 {G : GXM} {X : CxM} (hG : GokM G) (C : CoM G X cM_where "HomeFreedModel") (N : mLM X = 7) {d : Nat} (hD : dpM X = d) (hd : 3 ≤ d) {v0 : Nat} {v2 : Int32} {v3 : Int32} {v4 : Int32} {K : Nat → Int32 → Int32 → Int32 → Int32 → Mem → Option ((Int32 × Mem) ⊕ (Int32 × Int32 × Mem))} {q : (Int32 × Mem) ⊕ (Int32 × Int32 × Mem)} (hK : ∀ (v5 : Int32) (M : Mem), K v0 v2 v3 v4 v5 M = some q → ZM G X 109 [(0, .ref v0), (2, .int v2), (3, .int v3), (4, .int v4), (5, .int v5)] [] M 0 0) (hr : ∀ r : Int32 × Mem, q = .inl r → EnM G X (some .int) (some (.int r.1)) r.2 0 0) (hx0 : ∀ y : Int32 × Int32 × Mem, q = (.inr y) → ZM G X 140 [(0, .ref v0), (2, .int v2), (3, .int v3), (5, .int y.1), (6, .int y.2.1)] [] y.2.2 0 0) {v5 : Int32} {M : Mem} (h : BM_where_109 K v0 v2 v3 v4 v5 M = some q) : ZM G X 109 [(0, .ref v0), (2, .int v2), (3, .int v3), (4, .int v4), (5, .int v5)] [] M 0 0 := by
  unfold BM_where_109 at h
  refine zz_iload C 4 ddM_where_109 rfl ?_
  refine zz_aload_n C 0 ddM_where_111 rfl rfl ?_
  obtain ⟨h1, h⟩ := gdN h
  obtain ⟨h2, h⟩ := gdN h
  refine zz_getr C ddM_where_112 fl_M_19 rfl h1 (of_decide_eq_true h2) ?_
  refine zz_iconst (v := 0) C ddM_where_115 (by decide) ?_
  obtain ⟨h3, h⟩ := gdN h
  refine zz_iaload C ddM_where_116 h3 ?_
  refine zz_icmp_ge (tgt := 193) C ddM_where_117 rfl (fun hc => ?_) (fun hc => ?_)
  · replace h := iteT h hc
    refine zz_iconst (v := (-1)) C ddM_where_193 (by decide) ?_
    exact zz_iret C (hr _ (Option.some.inj h).symm) ddM_where_194
  · replace h := iteF h hc
    refine zz_aload_n C 0 ddM_where_120 rfl rfl ?_
    refine zz_iload C 4 ddM_where_121 rfl ?_
    refine zz_iload_n C 2 ddM_where_123 rfl rfl ?_
    obtain ⟨q4, hq4, h⟩ := bindN h
    refine zz_callS0 (As := [.int v5, .int v3]) C ddM_where_124 wd_1425 my_M_boxAt mv_M_boxAt (xM_boxAt hG (d - 1) (by omega) hq4) (by omega) rfl rfl (Nat.le_of_ble_eq_true rfl) ?_
    refine zz_iload C 3 ddM_where_127 rfl ?_
    obtain ⟨h6, h⟩ := gdN h
    obtain ⟨q5, hq5, h⟩ := bindN h
    refine zz_callV0 (As := [.int q4.1, .int v4]) C ddM_where_129 wd_1686 my_M_placeIn mv_M_placeIn ⟨_, rfl, rfl⟩ (xM_placeIn hG (d - 1) (by omega) hq5) (by omega) h6 rfl rfl (Nat.le_of_ble_eq_true rfl) ?_
    refine zz_istore (L1 := [(6, .int q5.1), (0, .ref v0), (2, .int v2), (3, .int v3), (4, .int v4), (5, .int v5)]) C ddM_where_132 N (by decide) rfl ?_
    refine zz_iload C 0 ddM_where_134 rfl ?_
    refine zz_iconst (v := (-1)) C ddM_where_136 (by decide) ?_
    refine zz_icmp_eq (tgt := 187) C ddM_where_137 rfl (fun hc => ?_) (fun hc => ?_)
    · replace h := iteT h hc
      refine zz_iinc (v := v5 + 1) (L1 := [(5, .int (v5 + 1)), (6, .int q5.1), (0, .ref v0), (2, .int v2), (3, .int v3), (4, .int v4)]) C 5 ddM_where_187 rfl rfl N (by decide) rfl ?_
      refine zz_goto (tgt := 109) C ddM_where_190 rfl ?_
      refine zz_loc (L1 := [(0, .ref v0), (2, .int v2), (3, .int v3), (4, .int v4), (5, .int (v5 + 1))]) [2, 3, 4, 5, 0] rfl ?_
      exact hK _ _ h
    · replace h := iteF h hc
      refine zz_loc (L1 := [(0, .ref v0), (2, .int v2), (3, .int v3), (5, .int v5), (6, .int q5.1)]) [1, 2, 3, 5, 0] rfl ?_
      exact hx0 _ (Option.some.inj h).symm
set_option maxHeartbeats 2000000 in
theorem zLM_where_109 {G : GXM} {X : CxM} (hG : GokM G) (C : CoM G X cM_where "HomeFreedModel") (N : mLM X = 7) {d : Nat} (hD : dpM X = d) (hd : 3 ≤ d) {v0 : Nat} {v2 : Int32} {v3 : Int32} {v4 : Int32} {q : (Int32 × Mem) ⊕ (Int32 × Int32 × Mem)} : ∀ (f : Nat) (v5 : Int32) (M : Mem), LM_where_109 f v0 v2 v3 v4 v5 M = some q → (hr : ∀ r : Int32 × Mem, q = .inl r → EnM G X (some .int) (some (.int r.1)) r.2 0 0) → (hx0 : ∀ y : Int32 × Int32 × Mem, q = (.inr y) → ZM G X 140 [(0, .ref v0), (2, .int v2), (3, .int v3), (5, .int y.1), (6, .int y.2.1)] [] y.2.2 0 0) → ZM G X 109 [(0, .ref v0), (2, .int v2), (3, .int v3), (4, .int v4), (5, .int v5)] [] M 0 0 := by
  intro f
  induction f with
  | zero => intro v5 M h; cases h
  | succ f ih =>
    intro v5 M h hr hx0
    exact zBM_where_109 hG C N hD hd (K := LM_where_109 f) (q := q) (fun v5 M h => ih v5 M h hr hx0) hr hx0 h
set_option maxHeartbeats 2000000 in
theorem zBM_where_99 {G : GXM} {X : CxM} (hG : GokM G) (C : CoM G X cM_where "HomeFreedModel") (N : mLM X = 7) {d : Nat} (hD : dpM X = d) (hd : 3 ≤ d)  {q : Int32 × Mem} (E : EnM G X (some .int) (some (.int q.1)) q.2 0 0) {w0 : Int32} {M : Mem} (h : BM_where_99 w0 M = some q) : ZM G X 99 [] [.int w0] M 0 0 := by
  unfold BM_where_99 at h
  obtain rfl := Option.some.inj h
  exact zz_iret C E ddM_where_99
set_option maxHeartbeats 2000000 in
theorem zBM_where_51 {G : GXM} {X : CxM} (hG : GokM G) (C : CoM G X cM_where "HomeFreedModel") (N : mLM X = 7) {d : Nat} (hD : dpM X = d) (hd : 3 ≤ d) {v0 : Nat} {v2 : Int32} {v3 : Int32} {v4 : Int32} {K : Nat → Int32 → Int32 → Int32 → Int32 → Mem → Option ((Int32 × Int32 × Mem) ⊕ (Mem))} {q : (Int32 × Int32 × Mem) ⊕ (Mem)} (hK : ∀ (v5 : Int32) (M : Mem), K v0 v2 v3 v4 v5 M = some q → ZM G X 51 [(0, .ref v0), (2, .int v2), (3, .int v3), (4, .int v4), (5, .int v5)] [] M 0 0) (hx0 : ∀ y : Int32 × Int32 × Mem, q = (.inl y) → ZM G X 77 [(2, .int v2), (5, .int y.1), (6, .int y.2.1)] [] y.2.2 0 0) (hx1 : ∀ y : Mem, q = (.inr y) → ZM G X 106 [(0, .ref v0), (2, .int v2), (3, .int v3), (4, .int v4)] [] y 0 0) {v5 : Int32} {M : Mem} (h : BM_where_51 K v0 v2 v3 v4 v5 M = some q) : ZM G X 51 [(0, .ref v0), (2, .int v2), (3, .int v3), (4, .int v4), (5, .int v5)] [] M 0 0 := by
  unfold BM_where_51 at h
  refine zz_iload C 4 ddM_where_51 rfl ?_
  refine zz_iconst (v := 3) C ddM_where_53 (by decide) ?_
  refine zz_icmp_ge (tgt := 106) C ddM_where_54 rfl (fun hc => ?_) (fun hc => ?_)
  · replace h := iteT h hc
    refine zz_loc (L1 := [(0, .ref v0), (2, .int v2), (3, .int v3), (4, .int v4)]) [0, 1, 2, 3] rfl ?_
    exact hx1 _ (Option.some.inj h).symm
  · replace h := iteF h hc
    refine zz_aload_n C 0 ddM_where_57 rfl rfl ?_
    refine zz_iload_n C 2 ddM_where_58 rfl rfl ?_
    refine zz_iload C 4 ddM_where_59 rfl ?_
    obtain ⟨q1, hq1, h⟩ := bindN h
    refine zz_callS0 (As := [.int v3, .int v5]) C ddM_where_61 wd_1398 my_M_listAt mv_M_listAt (xM_listAt hG (d - 1) (by omega) hq1) (by omega) rfl rfl (Nat.le_of_ble_eq_true rfl) ?_
    refine zz_iload C 3 ddM_where_64 rfl ?_
    obtain ⟨h3, h⟩ := gdN h
    obtain ⟨q2, hq2, h⟩ := bindN h
    refine zz_callV0 (As := [.int q1.1, .int v4]) C ddM_where_66 wd_1686 my_M_placeIn mv_M_placeIn ⟨_, rfl, rfl⟩ (xM_placeIn hG (d - 1) (by omega) hq2) (by omega) h3 rfl rfl (Nat.le_of_ble_eq_true rfl) ?_
    refine zz_istore (L1 := [(6, .int q2.1), (0, .ref v0), (2, .int v2), (3, .int v3), (4, .int v4), (5, .int v5)]) C ddM_where_69 N (by decide) rfl ?_
    refine zz_iload C 0 ddM_where_71 rfl ?_
    refine zz_iconst (v := (-1)) C ddM_where_73 (by decide) ?_
    refine zz_icmp_eq (tgt := 100) C ddM_where_74 rfl (fun hc => ?_) (fun hc => ?_)
    · replace h := iteT h hc
      refine zz_iinc (v := v5 + 1) (L1 := [(5, .int (v5 + 1)), (6, .int q2.1), (0, .ref v0), (2, .int v2), (3, .int v3), (4, .int v4)]) C 5 ddM_where_100 rfl rfl N (by decide) rfl ?_
      refine zz_goto (tgt := 51) C ddM_where_103 rfl ?_
      refine zz_loc (L1 := [(0, .ref v0), (2, .int v2), (3, .int v3), (4, .int v4), (5, .int (v5 + 1))]) [2, 3, 4, 5, 0] rfl ?_
      exact hK _ _ h
    · replace h := iteF h hc
      refine zz_loc (L1 := [(2, .int v2), (5, .int v5), (6, .int q2.1)]) [2, 5, 0] rfl ?_
      exact hx0 _ (Option.some.inj h).symm
set_option maxHeartbeats 2000000 in
theorem zLM_where_51 {G : GXM} {X : CxM} (hG : GokM G) (C : CoM G X cM_where "HomeFreedModel") (N : mLM X = 7) {d : Nat} (hD : dpM X = d) (hd : 3 ≤ d) {v0 : Nat} {v2 : Int32} {v3 : Int32} {v4 : Int32} {q : (Int32 × Int32 × Mem) ⊕ (Mem)} : ∀ (f : Nat) (v5 : Int32) (M : Mem), LM_where_51 f v0 v2 v3 v4 v5 M = some q → (hx0 : ∀ y : Int32 × Int32 × Mem, q = (.inl y) → ZM G X 77 [(2, .int v2), (5, .int y.1), (6, .int y.2.1)] [] y.2.2 0 0) → (hx1 : ∀ y : Mem, q = (.inr y) → ZM G X 106 [(0, .ref v0), (2, .int v2), (3, .int v3), (4, .int v4)] [] y 0 0) → ZM G X 51 [(0, .ref v0), (2, .int v2), (3, .int v3), (4, .int v4), (5, .int v5)] [] M 0 0 := by
  intro f
  induction f with
  | zero => intro v5 M h; cases h
  | succ f ih =>
    intro v5 M h hx0 hx1
    exact zBM_where_51 hG C N hD hd (K := LM_where_51 f) (q := q) (fun v5 M h => ih v5 M h hx0 hx1) hx0 hx1 h
set_option maxHeartbeats 2000000 in
theorem zBM_where_47 {G : GXM} {X : CxM} (hG : GokM G) (C : CoM G X cM_where "HomeFreedModel") (N : mLM X = 7) {d : Nat} (hD : dpM X = d) (hd : 3 ≤ d)  {q : Int32 × Mem} (E : EnM G X (some .int) (some (.int q.1)) q.2 0 0) {w0 : Int32} {M : Mem} (h : BM_where_47 w0 M = some q) : ZM G X 47 [] [.int w0] M 0 0 := by
  unfold BM_where_47 at h
  obtain rfl := Option.some.inj h
  exact zz_iret C E ddM_where_47
set_option maxHeartbeats 2000000 in
theorem zBM_where_17 {G : GXM} {X : CxM} (hG : GokM G) (C : CoM G X cM_where "HomeFreedModel") (N : mLM X = 7) {d : Nat} (hD : dpM X = d) (hd : 3 ≤ d)  {q : Int32 × Mem} (E : EnM G X (some .int) (some (.int q.1)) q.2 0 0) {M : Mem} (h : BM_where_17 M = some q) : ZM G X 17 [] [] M 0 0 := by
  unfold BM_where_17 at h
  refine zz_iconst (v := (-1)) C ddM_where_17 (by decide) ?_
  obtain rfl := Option.some.inj h
  exact zz_iret C E ddM_where_18
set_option maxHeartbeats 2000000 in
theorem xM_where {G : GXM} {l : Launch} (hG : GokM G) (d : Nat) (hd : 3 ≤ d) {v0 : Nat} {v1 : Int32} {v2 : Int32} {M : Mem} {q : Int32 × Mem} (h : fM_where v0 v1 v2 M = some q) : ExM G l d 0 0 yM_where cM_where 7 (some .int) [.ref v0, .int v1, .int v2] M (some (.int q.1)) q.2 := by
  refine ex_of hG (by decide) (Nat.le_of_ble_eq_true rfl) ?_
  intro X hl C E N hD hn
  show ZM G X 0 [(0, .ref v0), (1, .int v1), (2, .int v2)] [] M 0 0
  unfold fM_where at h
  refine zz_aload_n C 0 ddM_where_0 rfl rfl ?_
  refine zz_iload_n C 1 ddM_where_1 rfl rfl ?_
  obtain ⟨h2, h⟩ := gdN h
  obtain ⟨q1, hq1, h⟩ := bindN h
  refine zz_callV0 (As := [.int v1]) C ddM_where_2 wd_1443 my_M_isBlock mv_M_isBlock ⟨_, rfl, rfl⟩ (xM_isBlock hG (d - 1) (by omega) hq1) (by omega) h2 rfl rfl (Nat.le_of_ble_eq_true rfl) ?_
  refine zz_if_eq (tgt := 17) C ddM_where_5 rfl (fun hc => ?_) (fun hc => ?_)
  · replace h := iteT h hc
    refine zz_loc (L1 := []) [] rfl ?_
    exact zBM_where_17 hG C N hD hd E h
  · replace h := iteF h hc
    refine zz_iload_n C 2 ddM_where_8 rfl rfl ?_
    refine zz_iconst (v := 0) C ddM_where_9 (by decide) ?_
    refine zz_iconst (v := 3) C ddM_where_10 (by decide) ?_
    obtain ⟨q3, hq3, h⟩ := bindN h
    refine zz_callS0 (As := [.int v2, .int 0, .int 3]) C ddM_where_11 wd_1289 my_M_in mv_M_in (xM_in hG (d - 1) (by omega) hq3) (by omega) rfl rfl (Nat.le_of_ble_eq_true rfl) ?_
    refine zz_if_ne (tgt := 19) C ddM_where_14 rfl (fun hc => ?_) (fun hc => ?_)
    · replace h := iteF h hc
      refine zz_iload_n C 1 ddM_where_19 rfl rfl ?_
      refine zz_bipush (v := 100) C ddM_where_20 (by decide) ?_
      refine zz_idiv C ddM_where_22 (by decide) ?_
      refine zz_istore_n (L1 := [(3, .int (v1 / 100)), (0, .ref v0), (1, .int v1), (2, .int v2)]) C ddM_where_23 rfl N (by decide) rfl ?_
      refine zz_iload_n C 2 ddM_where_24 rfl rfl ?_
      refine zz_bipush (v := 100) C ddM_where_25 (by decide) ?_
      refine zz_irem C ddM_where_27 (by decide) ?_
      refine zz_istore (L1 := [(4, .int (v1 - v1 / 100 * 100)), (3, .int (v1 / 100)), (0, .ref v0), (1, .int v1), (2, .int v2)]) C ddM_where_28 N (by decide) rfl ?_
      refine zz_aload_n C 2 ddM_where_30 rfl rfl ?_
      refine zz_iload_n C 3 ddM_where_31 rfl rfl ?_
      obtain ⟨h5, h⟩ := gdN h
      obtain ⟨q4, hq4, h⟩ := bindN h
      refine zz_callV0 (As := [.int v1]) C ddM_where_32 wd_1447 my_M_isHeld mv_M_isHeld ⟨_, rfl, rfl⟩ (xM_isHeld hG (d - 1) (by omega) hq4) (by omega) h5 rfl rfl (Nat.le_of_ble_eq_true rfl) ?_
      refine zz_if_eq (tgt := 48) C ddM_where_35 rfl (fun hc => ?_) (fun hc => ?_)
      · replace h := iteT h hc
        refine zz_iconst (v := 0) C ddM_where_48 (by decide) ?_
        refine zz_istore (L1 := [(5, .int 0), (4, .int (v1 - v1 / 100 * 100)), (3, .int (v1 / 100)), (0, .ref v0), (1, .int v1), (2, .int v2)]) C ddM_where_49 N (by decide) rfl ?_
        refine zz_loc (L1 := [(0, .ref v0), (2, .int v2), (3, .int (v1 / 100)), (4, .int (v1 - v1 / 100 * 100)), (5, .int 0)]) [3, 5, 2, 1, 0] rfl ?_
        obtain ⟨q6, hq6, h⟩ := bindN h
        refine zLM_where_51 hG C N hD hd 1000000 _ _ hq6 ?_ ?_
        · intro y7 eq6; subst eq6
          refine zz_iload_n C 0 ddM_where_77 rfl rfl ?_
          refine zz_if_ne (tgt := 88) C ddM_where_78 rfl (fun hc => ?_) (fun hc => ?_)
          · replace h := iteF h hc
            refine zz_iload_n C 0 ddM_where_88 rfl rfl ?_
            refine zz_iconst (v := 1) C ddM_where_89 (by decide) ?_
            refine zz_icmp_ne (tgt := 98) C ddM_where_90 rfl (fun hc => ?_) (fun hc => ?_)
            · replace h := iteF h hc
              refine zz_iconst (v := (-1)) C ddM_where_98 (by decide) ?_
              refine zz_loc (L1 := []) [] rfl ?_
              exact zBM_where_99 hG C N hD hd E h
            · replace h := iteT h hc
              refine zz_iload C 2 ddM_where_93 rfl ?_
              refine zz_goto (tgt := 99) C ddM_where_95 rfl ?_
              refine zz_loc (L1 := []) [] rfl ?_
              exact zBM_where_99 hG C N hD hd E h
          · replace h := iteT h hc
            refine zz_iload C 1 ddM_where_81 rfl ?_
            refine zz_iconst (v := 1) C ddM_where_83 (by decide) ?_
            refine zz_iadd C ddM_where_84 ?_
            refine zz_goto (tgt := 99) C ddM_where_85 rfl ?_
            refine zz_loc (L1 := []) [] rfl ?_
            exact zBM_where_99 hG C N hD hd E h
        · intro y8 eq6; subst eq6
          refine zz_iconst (v := 0) C ddM_where_106 (by decide) ?_
          refine zz_istore (L1 := [(5, .int 0), (0, .ref v0), (2, .int v2), (3, .int (v1 / 100)), (4, .int (v1 - v1 / 100 * 100))]) C ddM_where_107 N (by decide) rfl ?_
          refine zz_loc (L1 := [(0, .ref v0), (2, .int v2), (3, .int (v1 / 100)), (4, .int (v1 - v1 / 100 * 100)), (5, .int 0)]) [1, 2, 3, 4, 0] rfl ?_
          obtain ⟨q9, hq9, h⟩ := bindN h
          refine zLM_where_109 hG C N hD hd 1000000 _ _ hq9 ?_ ?_
          · intro r10 eq9; subst eq9
            obtain rfl := Option.some.inj h
            exact E
          · intro y11 eq9; subst eq9
            refine zz_iload_n C 1 ddM_where_140 rfl rfl ?_
            refine zz_if_ne (tgt := 148) C ddM_where_141 rfl (fun hc => ?_) (fun hc => ?_)
            · replace h := iteF h hc
              refine zz_iload_n C 1 ddM_where_148 rfl rfl ?_
              refine zz_iconst (v := 1) C ddM_where_149 (by decide) ?_
              refine zz_icmp_ne (tgt := 158) C ddM_where_150 rfl (fun hc => ?_) (fun hc => ?_)
              · replace h := iteF h hc
                refine zz_iload_n C 1 ddM_where_158 rfl rfl ?_
                refine zz_iconst (v := 2) C ddM_where_159 (by decide) ?_
                refine zz_icmp_ne (tgt := 168) C ddM_where_160 rfl (fun hc => ?_) (fun hc => ?_)
                · replace h := iteF h hc
                  refine zz_aload_n C 0 ddM_where_168 rfl rfl ?_
                  obtain ⟨h12, h⟩ := gdN h
                  obtain ⟨h13, h⟩ := gdN h
                  refine zz_getr C ddM_where_169 fl_M_19 rfl h12 (of_decide_eq_true h13) ?_
                  refine zz_iconst (v := 3) C ddM_where_172 (by decide) ?_
                  obtain ⟨h14, h⟩ := gdN h
                  refine zz_iaload C ddM_where_173 h14 ?_
                  refine zz_aload_n C 0 ddM_where_174 rfl rfl ?_
                  obtain ⟨h15, h⟩ := gdN h
                  refine zz_getr C ddM_where_175 fl_M_31 rfl h12 (of_decide_eq_true h15) ?_
                  refine zz_iload C 3 ddM_where_178 rfl ?_
                  refine zz_iload_n C 2 ddM_where_180 rfl rfl ?_
                  obtain ⟨q16, hq16, h⟩ := bindN h
                  refine zz_callS0 (As := [.int y11.1, .int (v1 / 100)]) C ddM_where_181 wd_1425 my_M_boxAt mv_M_boxAt (xM_boxAt hG (d - 1) (by omega) hq16) (by omega) rfl rfl (Nat.le_of_ble_eq_true rfl) ?_
                  obtain ⟨h17, h⟩ := gdN h
                  refine zz_iaload C ddM_where_184 h17 ?_
                  refine zz_isub C ddM_where_185 ?_
                  refine zz_loc (L1 := []) [] rfl ?_
                  exact zBM_where_186 hG C N hD hd E h
                · replace h := iteT h hc
                  refine zz_iload C 3 ddM_where_163 rfl ?_
                  refine zz_goto (tgt := 186) C ddM_where_165 rfl ?_
                  refine zz_loc (L1 := []) [] rfl ?_
                  exact zBM_where_186 hG C N hD hd E h
              · replace h := iteT h hc
                refine zz_iload C 4 ddM_where_153 rfl ?_
                refine zz_goto (tgt := 186) C ddM_where_155 rfl ?_
                refine zz_loc (L1 := []) [] rfl ?_
                exact zBM_where_186 hG C N hD hd E h
            · replace h := iteT h hc
              refine zz_iconst (v := 4) C ddM_where_144 (by decide) ?_
              refine zz_goto (tgt := 186) C ddM_where_145 rfl ?_
              refine zz_loc (L1 := []) [] rfl ?_
              exact zBM_where_186 hG C N hD hd E h
      · replace h := iteF h hc
        refine zz_iload_n C 4 ddM_where_38 rfl rfl ?_
        refine zz_if_ne (tgt := 46) C ddM_where_39 rfl (fun hc => ?_) (fun hc => ?_)
        · replace h := iteF h hc
          refine zz_iconst (v := (-1)) C ddM_where_46 (by decide) ?_
          refine zz_loc (L1 := []) [] rfl ?_
          exact zBM_where_47 hG C N hD hd E h
        · replace h := iteT h hc
          refine zz_iconst (v := 0) C ddM_where_42 (by decide) ?_
          refine zz_goto (tgt := 47) C ddM_where_43 rfl ?_
          refine zz_loc (L1 := []) [] rfl ?_
          exact zBM_where_47 hG C N hD hd E h
    · replace h := iteT h hc
      refine zz_loc (L1 := []) [] rfl ?_
      exact zBM_where_17 hG C N hD hd E h
theorem ddM_series_0 : decode cM_series 0 = .ok (.aload_n 0, 1) := by decide +kernel
theorem ddM_series_1 : decode cM_series 1 = .ok (.iload_n 1, 1) := by decide +kernel
theorem ddM_series_2 : decode cM_series 2 = .ok (.invokevirtual 260, 3) := by decide +kernel
theorem ddM_series_5 : decode cM_series 5 = .ok (.ifCond .eq 21, 3) := by decide +kernel
theorem ddM_series_8 : decode cM_series 8 = .ok (.aload_n 0, 1) := by decide +kernel
theorem ddM_series_9 : decode cM_series 9 = .ok (.iload_n 2, 1) := by decide +kernel
theorem ddM_series_10 : decode cM_series 10 = .ok (.invokevirtual 312, 3) := by decide +kernel
theorem ddM_series_13 : decode cM_series 13 = .ok (.ifCond .eq 13, 3) := by decide +kernel
theorem ddM_series_16 : decode cM_series 16 = .ok (.iload_n 3, 1) := by decide +kernel
theorem ddM_series_17 : decode cM_series 17 = .ok (.iconst (-1), 1) := by decide +kernel
theorem ddM_series_18 : decode cM_series 18 = .ok (.bipush 99, 2) := by decide +kernel
theorem ddM_series_20 : decode cM_series 20 = .ok (.invokestatic 75, 3) := by decide +kernel
theorem ddM_series_23 : decode cM_series 23 = .ok (.ifCond .ne 5, 3) := by decide +kernel
theorem ddM_series_26 : decode cM_series 26 = .ok (.iconst (-1), 1) := by decide +kernel
theorem ddM_series_27 : decode cM_series 27 = .ok (.ireturn, 1) := by decide +kernel
theorem ddM_series_28 : decode cM_series 28 = .ok (.aload_n 0, 1) := by decide +kernel
theorem ddM_series_29 : decode cM_series 29 = .ok (.iconst 0, 1) := by decide +kernel
theorem ddM_series_30 : decode cM_series 30 = .ok (.invokevirtual 351, 3) := by decide +kernel
theorem ddM_series_33 : decode cM_series 33 = .ok (.iconst 0, 1) := by decide +kernel
theorem ddM_series_34 : decode cM_series 34 = .ok (.istore 4, 2) := by decide +kernel
theorem ddM_series_36 : decode cM_series 36 = .ok (.aload_n 0, 1) := by decide +kernel
theorem ddM_series_37 : decode cM_series 37 = .ok (.iload_n 1, 1) := by decide +kernel
theorem ddM_series_38 : decode cM_series 38 = .ok (.aload_n 0, 1) := by decide +kernel
theorem ddM_series_39 : decode cM_series 39 = .ok (.iload_n 2, 1) := by decide +kernel
theorem ddM_series_40 : decode cM_series 40 = .ok (.invokevirtual 263, 3) := by decide +kernel
theorem ddM_series_43 : decode cM_series 43 = .ok (.invokevirtual 275, 3) := by decide +kernel
theorem ddM_series_46 : decode cM_series 46 = .ok (.istore 5, 2) := by decide +kernel
theorem ddM_series_48 : decode cM_series 48 = .ok (.iload 5, 2) := by decide +kernel
theorem ddM_series_50 : decode cM_series 50 = .ok (.iconst (-1), 1) := by decide +kernel
theorem ddM_series_51 : decode cM_series 51 = .ok (.if_icmp .eq 27, 3) := by decide +kernel
theorem ddM_series_54 : decode cM_series 54 = .ok (.iload 4, 2) := by decide +kernel
theorem ddM_series_56 : decode cM_series 56 = .ok (.iload_n 3, 1) := by decide +kernel
theorem ddM_series_57 : decode cM_series 57 = .ok (.if_icmp .eq 21, 3) := by decide +kernel
theorem ddM_series_60 : decode cM_series 60 = .ok (.iinc 4 1, 3) := by decide +kernel
theorem ddM_series_63 : decode cM_series 63 = .ok (.aload_n 0, 1) := by decide +kernel
theorem ddM_series_64 : decode cM_series 64 = .ok (.iload_n 1, 1) := by decide +kernel
theorem ddM_series_65 : decode cM_series 65 = .ok (.aload_n 0, 1) := by decide +kernel
theorem ddM_series_66 : decode cM_series 66 = .ok (.iload_n 2, 1) := by decide +kernel
theorem ddM_series_67 : decode cM_series 67 = .ok (.invokevirtual 263, 3) := by decide +kernel
theorem ddM_series_70 : decode cM_series 70 = .ok (.invokevirtual 275, 3) := by decide +kernel
theorem ddM_series_73 : decode cM_series 73 = .ok (.istore 5, 2) := by decide +kernel
theorem ddM_series_75 : decode cM_series 75 = .ok (.goto (-27), 3) := by decide +kernel
theorem ddM_series_78 : decode cM_series 78 = .ok (.aload_n 0, 1) := by decide +kernel
theorem ddM_series_79 : decode cM_series 79 = .ok (.iconst 0, 1) := by decide +kernel
theorem ddM_series_80 : decode cM_series 80 = .ok (.invokevirtual 354, 3) := by decide +kernel
theorem ddM_series_83 : decode cM_series 83 = .ok (.iload_n 3, 1) := by decide +kernel
theorem ddM_series_84 : decode cM_series 84 = .ok (.iconst (-1), 1) := by decide +kernel
theorem ddM_series_85 : decode cM_series 85 = .ok (.if_icmp .ne 8, 3) := by decide +kernel
theorem ddM_series_88 : decode cM_series 88 = .ok (.iload 4, 2) := by decide +kernel
theorem ddM_series_90 : decode cM_series 90 = .ok (.goto 5, 3) := by decide +kernel
theorem ddM_series_93 : decode cM_series 93 = .ok (.iload 5, 2) := by decide +kernel
theorem ddM_series_95 : decode cM_series 95 = .ok (.ireturn, 1) := by decide +kernel
set_option maxHeartbeats 2000000 in
theorem zBM_series_95 {G : GXM} {X : CxM} (hG : GokM G) (C : CoM G X cM_series "HomeFreedModel") (N : mLM X = 6) {d : Nat} (hD : dpM X = d) (hd : 8 ≤ d)  {q : Int32 × Mem} (E : EnM G X (some .int) (some (.int q.1)) q.2 0 0) {w0 : Int32} {M : Mem} (h : BM_series_95 w0 M = some q) : ZM G X 95 [] [.int w0] M 0 0 := by
  unfold BM_series_95 at h
  obtain rfl := Option.some.inj h
  exact zz_iret C E ddM_series_95
set_option maxHeartbeats 2000000 in
theorem zBM_series_78 {G : GXM} {X : CxM} (hG : GokM G) (C : CoM G X cM_series "HomeFreedModel") (N : mLM X = 6) {d : Nat} (hD : dpM X = d) (hd : 8 ≤ d)  {q : Int32 × Mem} (E : EnM G X (some .int) (some (.int q.1)) q.2 0 0) {v0 : Nat} {v3 : Int32} {v4 : Int32} {v5 : Int32} {M : Mem} (h : BM_series_78 v0 v3 v4 v5 M = some q) : ZM G X 78 [(0, .ref v0), (3, .int v3), (4, .int v4), (5, .int v5)] [] M 0 0 := by
  unfold BM_series_78 at h
  refine zz_aload_n C 0 ddM_series_78 rfl rfl ?_
  refine zz_iconst (v := 0) C ddM_series_79 (by decide) ?_
  obtain ⟨h2, h⟩ := gdN h
  obtain ⟨q1, hq1, h⟩ := bindN h
  refine zz_callV0 (As := [.int 0]) C ddM_series_80 wd_1678 my_M_takeBack mv_M_takeBack ⟨_, rfl, rfl⟩ (xM_takeBack hG (d - 1) (by omega) hq1) (by omega) h2 rfl rfl (Nat.le_of_ble_eq_true rfl) ?_
  refine zz_iload_n C 1 ddM_series_83 rfl rfl ?_
  refine zz_iconst (v := (-1)) C ddM_series_84 (by decide) ?_
  refine zz_icmp_ne (tgt := 93) C ddM_series_85 rfl (fun hc => ?_) (fun hc => ?_)
  · replace h := iteF h hc
    refine zz_iload C 3 ddM_series_93 rfl ?_
    refine zz_loc (L1 := []) [] rfl ?_
    exact zBM_series_95 hG C N hD hd E h
  · replace h := iteT h hc
    refine zz_iload C 2 ddM_series_88 rfl ?_
    refine zz_goto (tgt := 95) C ddM_series_90 rfl ?_
    refine zz_loc (L1 := []) [] rfl ?_
    exact zBM_series_95 hG C N hD hd E h
set_option maxHeartbeats 2000000 in
theorem zBM_series_48 {G : GXM} {X : CxM} (hG : GokM G) (C : CoM G X cM_series "HomeFreedModel") (N : mLM X = 6) {d : Nat} (hD : dpM X = d) (hd : 8 ≤ d) {v0 : Nat} {v1 : Int32} {v2 : Int32} {v3 : Int32} {K : Nat → Int32 → Int32 → Int32 → Int32 → Int32 → Mem → Option ((Int32 × Int32 × Mem))} {q : (Int32 × Int32 × Mem)} (hK : ∀ (v4 : Int32) (v5 : Int32) (M : Mem), K v0 v1 v2 v3 v4 v5 M = some q → ZM G X 48 [(0, .ref v0), (1, .int v1), (2, .int v2), (3, .int v3), (4, .int v4), (5, .int v5)] [] M 0 0) (hx0 : ∀ y : Int32 × Int32 × Mem, q = y → ZM G X 78 [(0, .ref v0), (3, .int v3), (4, .int y.1), (5, .int y.2.1)] [] y.2.2 0 0) {v4 : Int32} {v5 : Int32} {M : Mem} (h : BM_series_48 K v0 v1 v2 v3 v4 v5 M = some q) : ZM G X 48 [(0, .ref v0), (1, .int v1), (2, .int v2), (3, .int v3), (4, .int v4), (5, .int v5)] [] M 0 0 := by
  unfold BM_series_48 at h
  refine zz_iload C 5 ddM_series_48 rfl ?_
  refine zz_iconst (v := (-1)) C ddM_series_50 (by decide) ?_
  refine zz_icmp_eq (tgt := 78) C ddM_series_51 rfl (fun hc => ?_) (fun hc => ?_)
  · replace h := iteT h hc
    refine zz_loc (L1 := [(0, .ref v0), (3, .int v3), (4, .int v4), (5, .int v5)]) [0, 3, 4, 5] rfl ?_
    exact hx0 _ (Option.some.inj h).symm
  · replace h := iteF h hc
    refine zz_iload C 4 ddM_series_54 rfl ?_
    refine zz_iload_n C 3 ddM_series_56 rfl rfl ?_
    refine zz_icmp_eq (tgt := 78) C ddM_series_57 rfl (fun hc => ?_) (fun hc => ?_)
    · replace h := iteT h hc
      refine zz_loc (L1 := [(0, .ref v0), (3, .int v3), (4, .int v4), (5, .int v5)]) [0, 3, 4, 5] rfl ?_
      exact hx0 _ (Option.some.inj h).symm
    · replace h := iteF h hc
      refine zz_iinc (v := v4 + 1) (L1 := [(4, .int (v4 + 1)), (0, .ref v0), (1, .int v1), (2, .int v2), (3, .int v3), (5, .int v5)]) C 4 ddM_series_60 rfl rfl N (by decide) rfl ?_
      refine zz_aload_n C 1 ddM_series_63 rfl rfl ?_
      refine zz_iload_n C 2 ddM_series_64 rfl rfl ?_
      refine zz_aload_n C 1 ddM_series_65 rfl rfl ?_
      refine zz_iload_n C 3 ddM_series_66 rfl rfl ?_
      obtain ⟨h2, h⟩ := gdN h
      obtain ⟨q1, hq1, h⟩ := bindN h
      refine zz_callV0 (As := [.int v2]) C ddM_series_67 wd_1459 my_M_classFor mv_M_classFor ⟨_, rfl, rfl⟩ (xM_classFor hG (d - 1) (by omega) hq1) (by omega) h2 rfl rfl (Nat.le_of_ble_eq_true rfl) ?_
      obtain ⟨h4, h⟩ := gdN h
      obtain ⟨q3, hq3, h⟩ := bindN h
      refine zz_callV0 (As := [.int v1, .int q1.1]) C ddM_series_70 wd_1483 my_M_getNow mv_M_getNow ⟨_, rfl, rfl⟩ (xM_getNow hG (d - 1) (by omega) hq3) (by omega) h4 rfl rfl (Nat.le_of_ble_eq_true rfl) ?_
      refine zz_istore (L1 := [(5, .int q3.1), (4, .int (v4 + 1)), (0, .ref v0), (1, .int v1), (2, .int v2), (3, .int v3)]) C ddM_series_73 N (by decide) rfl ?_
      refine zz_goto (tgt := 48) C ddM_series_75 rfl ?_
      refine zz_loc (L1 := [(0, .ref v0), (1, .int v1), (2, .int v2), (3, .int v3), (4, .int (v4 + 1)), (5, .int q3.1)]) [2, 3, 4, 5, 1, 0] rfl ?_
      exact hK _ _ _ h
set_option maxHeartbeats 2000000 in
theorem zLM_series_48 {G : GXM} {X : CxM} (hG : GokM G) (C : CoM G X cM_series "HomeFreedModel") (N : mLM X = 6) {d : Nat} (hD : dpM X = d) (hd : 8 ≤ d) {v0 : Nat} {v1 : Int32} {v2 : Int32} {v3 : Int32} {q : (Int32 × Int32 × Mem)} : ∀ (f : Nat) (v4 : Int32) (v5 : Int32) (M : Mem), LM_series_48 f v0 v1 v2 v3 v4 v5 M = some q → (hx0 : ∀ y : Int32 × Int32 × Mem, q = y → ZM G X 78 [(0, .ref v0), (3, .int v3), (4, .int y.1), (5, .int y.2.1)] [] y.2.2 0 0) → ZM G X 48 [(0, .ref v0), (1, .int v1), (2, .int v2), (3, .int v3), (4, .int v4), (5, .int v5)] [] M 0 0 := by
  intro f
  induction f with
  | zero => intro v4 v5 M h; cases h
  | succ f ih =>
    intro v4 v5 M h hx0
    exact zBM_series_48 hG C N hD hd (K := LM_series_48 f) (q := q) (fun v4 v5 M h => ih v4 v5 M h hx0) hx0 h
set_option maxHeartbeats 2000000 in
theorem zBM_series_26 {G : GXM} {X : CxM} (hG : GokM G) (C : CoM G X cM_series "HomeFreedModel") (N : mLM X = 6) {d : Nat} (hD : dpM X = d) (hd : 8 ≤ d)  {q : Int32 × Mem} (E : EnM G X (some .int) (some (.int q.1)) q.2 0 0) {M : Mem} (h : BM_series_26 M = some q) : ZM G X 26 [] [] M 0 0 := by
  unfold BM_series_26 at h
  refine zz_iconst (v := (-1)) C ddM_series_26 (by decide) ?_
  obtain rfl := Option.some.inj h
  exact zz_iret C E ddM_series_27
set_option maxHeartbeats 2000000 in
theorem xM_series {G : GXM} {l : Launch} (hG : GokM G) (d : Nat) (hd : 8 ≤ d) {v0 : Nat} {v1 : Int32} {v2 : Int32} {v3 : Int32} {M : Mem} {q : Int32 × Mem} (h : fM_series v0 v1 v2 v3 M = some q) : ExM G l d 0 0 yM_series cM_series 6 (some .int) [.ref v0, .int v1, .int v2, .int v3] M (some (.int q.1)) q.2 := by
  refine ex_of hG (by decide) (Nat.le_of_ble_eq_true rfl) ?_
  intro X hl C E N hD hn
  show ZM G X 0 [(0, .ref v0), (1, .int v1), (2, .int v2), (3, .int v3)] [] M 0 0
  unfold fM_series at h
  refine zz_aload_n C 0 ddM_series_0 rfl rfl ?_
  refine zz_iload_n C 1 ddM_series_1 rfl rfl ?_
  obtain ⟨h2, h⟩ := gdN h
  obtain ⟨q1, hq1, h⟩ := bindN h
  refine zz_callV0 (As := [.int v1]) C ddM_series_2 wd_1463 my_M_doesLive mv_M_doesLive ⟨_, rfl, rfl⟩ (xM_doesLive hG (d - 1) (by omega) hq1) (by omega) h2 rfl rfl (Nat.le_of_ble_eq_true rfl) ?_
  refine zz_if_eq (tgt := 26) C ddM_series_5 rfl (fun hc => ?_) (fun hc => ?_)
  · replace h := iteT h hc
    refine zz_loc (L1 := []) [] rfl ?_
    exact zBM_series_26 hG C N hD hd E h
  · replace h := iteF h hc
    refine zz_aload_n C 0 ddM_series_8 rfl rfl ?_
    refine zz_iload_n C 2 ddM_series_9 rfl rfl ?_
    obtain ⟨h4, h⟩ := gdN h
    obtain ⟨q3, hq3, h⟩ := bindN h
    refine zz_callV0 (As := [.int v2]) C ddM_series_10 wd_1455 my_M_isAsked mv_M_isAsked ⟨_, rfl, rfl⟩ (xM_isAsked hG (d - 1) (by omega) hq3) (by omega) h4 rfl rfl (Nat.le_of_ble_eq_true rfl) ?_
    refine zz_if_eq (tgt := 26) C ddM_series_13 rfl (fun hc => ?_) (fun hc => ?_)
    · replace h := iteT h hc
      refine zz_loc (L1 := []) [] rfl ?_
      exact zBM_series_26 hG C N hD hd E h
    · replace h := iteF h hc
      refine zz_iload_n C 3 ddM_series_16 rfl rfl ?_
      refine zz_iconst (v := (-1)) C ddM_series_17 (by decide) ?_
      refine zz_bipush (v := 99) C ddM_series_18 (by decide) ?_
      obtain ⟨q5, hq5, h⟩ := bindN h
      refine zz_callS0 (As := [.int v3, .int ((-1)), .int 99]) C ddM_series_20 wd_1289 my_M_in mv_M_in (xM_in hG (d - 1) (by omega) hq5) (by omega) rfl rfl (Nat.le_of_ble_eq_true rfl) ?_
      refine zz_if_ne (tgt := 28) C ddM_series_23 rfl (fun hc => ?_) (fun hc => ?_)
      · replace h := iteF h hc
        refine zz_aload_n C 0 ddM_series_28 rfl rfl ?_
        refine zz_iconst (v := 0) C ddM_series_29 (by decide) ?_
        obtain ⟨h7, h⟩ := gdN h
        obtain ⟨q6, hq6, h⟩ := bindN h
        refine zz_callV0 (As := [.int 0]) C ddM_series_30 wd_1674 my_M_putAside mv_M_putAside ⟨_, rfl, rfl⟩ (xM_putAside hG (d - 1) (by omega) hq6) (by omega) h7 rfl rfl (Nat.le_of_ble_eq_true rfl) ?_
        refine zz_iconst (v := 0) C ddM_series_33 (by decide) ?_
        refine zz_istore (L1 := [(4, .int 0), (0, .ref v0), (1, .int v1), (2, .int v2), (3, .int v3)]) C ddM_series_34 N (by decide) rfl ?_
        refine zz_aload_n C 1 ddM_series_36 rfl rfl ?_
        refine zz_iload_n C 2 ddM_series_37 rfl rfl ?_
        refine zz_aload_n C 1 ddM_series_38 rfl rfl ?_
        refine zz_iload_n C 3 ddM_series_39 rfl rfl ?_
        obtain ⟨h9, h⟩ := gdN h
        obtain ⟨q8, hq8, h⟩ := bindN h
        refine zz_callV0 (As := [.int v2]) C ddM_series_40 wd_1459 my_M_classFor mv_M_classFor ⟨_, rfl, rfl⟩ (xM_classFor hG (d - 1) (by omega) hq8) (by omega) h9 rfl rfl (Nat.le_of_ble_eq_true rfl) ?_
        obtain ⟨h11, h⟩ := gdN h
        obtain ⟨q10, hq10, h⟩ := bindN h
        refine zz_callV0 (As := [.int v1, .int q8.1]) C ddM_series_43 wd_1483 my_M_getNow mv_M_getNow ⟨_, rfl, rfl⟩ (xM_getNow hG (d - 1) (by omega) hq10) (by omega) h11 rfl rfl (Nat.le_of_ble_eq_true rfl) ?_
        refine zz_istore (L1 := [(5, .int q10.1), (4, .int 0), (0, .ref v0), (1, .int v1), (2, .int v2), (3, .int v3)]) C ddM_series_46 N (by decide) rfl ?_
        refine zz_loc (L1 := [(0, .ref v0), (1, .int v1), (2, .int v2), (3, .int v3), (4, .int 0), (5, .int q10.1)]) [2, 3, 4, 5, 1, 0] rfl ?_
        obtain ⟨q12, hq12, h⟩ := bindN h
        refine zLM_series_48 hG C N hD hd 1000000 _ _ _ hq12 ?_
        · intro y13 eq12; subst eq12
          exact zBM_series_78 hG C N hD hd E h
      · replace h := iteT h hc
        refine zz_loc (L1 := []) [] rfl ?_
        exact zBM_series_26 hG C N hD hd E h
theorem ddM_pagesInUse_0 : decode cM_pagesInUse 0 = .ok (.iconst 0, 1) := by decide +kernel
theorem ddM_pagesInUse_1 : decode cM_pagesInUse 1 = .ok (.istore_n 1, 1) := by decide +kernel
theorem ddM_pagesInUse_2 : decode cM_pagesInUse 2 = .ok (.iconst 0, 1) := by decide +kernel
theorem ddM_pagesInUse_3 : decode cM_pagesInUse 3 = .ok (.istore_n 2, 1) := by decide +kernel
theorem ddM_pagesInUse_4 : decode cM_pagesInUse 4 = .ok (.iload_n 2, 1) := by decide +kernel
theorem ddM_pagesInUse_5 : decode cM_pagesInUse 5 = .ok (.aload_n 0, 1) := by decide +kernel
theorem ddM_pagesInUse_6 : decode cM_pagesInUse 6 = .ok (.getfield 19, 3) := by decide +kernel
theorem ddM_pagesInUse_9 : decode cM_pagesInUse 9 = .ok (.iconst 1, 1) := by decide +kernel
theorem ddM_pagesInUse_10 : decode cM_pagesInUse 10 = .ok (.iaload, 1) := by decide +kernel
theorem ddM_pagesInUse_11 : decode cM_pagesInUse 11 = .ok (.if_icmp .ge 26, 3) := by decide +kernel
theorem ddM_pagesInUse_14 : decode cM_pagesInUse 14 = .ok (.iload_n 1, 1) := by decide +kernel
theorem ddM_pagesInUse_15 : decode cM_pagesInUse 15 = .ok (.aload_n 0, 1) := by decide +kernel
theorem ddM_pagesInUse_16 : decode cM_pagesInUse 16 = .ok (.iload_n 2, 1) := by decide +kernel
theorem ddM_pagesInUse_17 : decode cM_pagesInUse 17 = .ok (.iconst 0, 1) := by decide +kernel
theorem ddM_pagesInUse_18 : decode cM_pagesInUse 18 = .ok (.invokevirtual 170, 3) := by decide +kernel
theorem ddM_pagesInUse_21 : decode cM_pagesInUse 21 = .ok (.ifCond .eq 7, 3) := by decide +kernel
theorem ddM_pagesInUse_24 : decode cM_pagesInUse 24 = .ok (.iconst 1, 1) := by decide +kernel
theorem ddM_pagesInUse_25 : decode cM_pagesInUse 25 = .ok (.goto 4, 3) := by decide +kernel
theorem ddM_pagesInUse_28 : decode cM_pagesInUse 28 = .ok (.iconst 0, 1) := by decide +kernel
theorem ddM_pagesInUse_29 : decode cM_pagesInUse 29 = .ok (.iadd, 1) := by decide +kernel
theorem ddM_pagesInUse_30 : decode cM_pagesInUse 30 = .ok (.istore_n 1, 1) := by decide +kernel
theorem ddM_pagesInUse_31 : decode cM_pagesInUse 31 = .ok (.iinc 2 1, 3) := by decide +kernel
theorem ddM_pagesInUse_34 : decode cM_pagesInUse 34 = .ok (.goto (-30), 3) := by decide +kernel
theorem ddM_pagesInUse_37 : decode cM_pagesInUse 37 = .ok (.iload_n 1, 1) := by decide +kernel
theorem ddM_pagesInUse_38 : decode cM_pagesInUse 38 = .ok (.ireturn, 1) := by decide +kernel
set_option maxHeartbeats 2000000 in
theorem zBM_pagesInUse_29 {G : GXM} {X : CxM} (hG : GokM G) (C : CoM G X cM_pagesInUse "HomeFreedModel") (N : mLM X = 3) {d : Nat} (hD : dpM X = d) (hd : 1 ≤ d) {v0 : Nat} {K : Nat → Int32 → Int32 → Mem → Option ((Int32 × Mem))} {q : (Int32 × Mem)} (hK : ∀ (v1 : Int32) (v2 : Int32) (M : Mem), K v0 v1 v2 M = some q → ZM G X 4 [(0, .ref v0), (1, .int v1), (2, .int v2)] [] M 0 0) (hr : ∀ r : Int32 × Mem, q =  r → EnM G X (some .int) (some (.int r.1)) r.2 0 0) {v2 : Int32} {w0 : Int32} {w1 : Int32} {M : Mem} (h : BM_pagesInUse_29 K v0 v2 w0 w1 M = some q) : ZM G X 29 [(0, .ref v0), (2, .int v2)] [.int w1, .int w0] M 0 0 := by
  unfold BM_pagesInUse_29 at h
  refine zz_iadd C ddM_pagesInUse_29 ?_
  refine zz_istore_n (L1 := [(1, .int (w0 + w1)), (0, .ref v0), (2, .int v2)]) C ddM_pagesInUse_30 rfl N (by decide) rfl ?_
  refine zz_iinc (v := v2 + 1) (L1 := [(2, .int (v2 + 1)), (1, .int (w0 + w1)), (0, .ref v0)]) C 2 ddM_pagesInUse_31 rfl rfl N (by decide) rfl ?_
  refine zz_goto (tgt := 4) C ddM_pagesInUse_34 rfl ?_
  refine zz_loc (L1 := [(0, .ref v0), (1, .int (w0 + w1)), (2, .int (v2 + 1))]) [2, 1, 0] rfl ?_
  exact hK _ _ _ h
set_option maxHeartbeats 2000000 in
theorem zBM_pagesInUse_4 {G : GXM} {X : CxM} (hG : GokM G) (C : CoM G X cM_pagesInUse "HomeFreedModel") (N : mLM X = 3) {d : Nat} (hD : dpM X = d) (hd : 1 ≤ d) {v0 : Nat} {K : Nat → Int32 → Int32 → Mem → Option ((Int32 × Mem))} {q : (Int32 × Mem)} (hK : ∀ (v1 : Int32) (v2 : Int32) (M : Mem), K v0 v1 v2 M = some q → ZM G X 4 [(0, .ref v0), (1, .int v1), (2, .int v2)] [] M 0 0) (hr : ∀ r : Int32 × Mem, q =  r → EnM G X (some .int) (some (.int r.1)) r.2 0 0) {v1 : Int32} {v2 : Int32} {M : Mem} (h : BM_pagesInUse_4 K v0 v1 v2 M = some q) : ZM G X 4 [(0, .ref v0), (1, .int v1), (2, .int v2)] [] M 0 0 := by
  unfold BM_pagesInUse_4 at h
  refine zz_iload_n C 2 ddM_pagesInUse_4 rfl rfl ?_
  refine zz_aload_n C 0 ddM_pagesInUse_5 rfl rfl ?_
  obtain ⟨h1, h⟩ := gdN h
  obtain ⟨h2, h⟩ := gdN h
  refine zz_getr C ddM_pagesInUse_6 fl_M_19 rfl h1 (of_decide_eq_true h2) ?_
  refine zz_iconst (v := 1) C ddM_pagesInUse_9 (by decide) ?_
  obtain ⟨h3, h⟩ := gdN h
  refine zz_iaload C ddM_pagesInUse_10 h3 ?_
  refine zz_icmp_ge (tgt := 37) C ddM_pagesInUse_11 rfl (fun hc => ?_) (fun hc => ?_)
  · replace h := iteT h hc
    refine zz_iload_n C 1 ddM_pagesInUse_37 rfl rfl ?_
    exact zz_iret C (hr _ (Option.some.inj h).symm) ddM_pagesInUse_38
  · replace h := iteF h hc
    refine zz_iload_n C 1 ddM_pagesInUse_14 rfl rfl ?_
    refine zz_aload_n C 0 ddM_pagesInUse_15 rfl rfl ?_
    refine zz_iload_n C 2 ddM_pagesInUse_16 rfl rfl ?_
    refine zz_iconst (v := 0) C ddM_pagesInUse_17 (by decide) ?_
    obtain ⟨q4, hq4, h⟩ := bindN h
    refine zz_callV0 (As := [.int v2, .int 0]) C ddM_pagesInUse_18 wd_1378 my_M_of mv_M_of ⟨_, rfl, rfl⟩ (xM_of hG (d - 1) (by omega) hq4) (by omega) h1 rfl rfl (Nat.le_of_ble_eq_true rfl) ?_
    refine zz_if_eq (tgt := 28) C ddM_pagesInUse_21 rfl (fun hc => ?_) (fun hc => ?_)
    · replace h := iteT h hc
      refine zz_iconst (v := 0) C ddM_pagesInUse_28 (by decide) ?_
      refine zz_loc (L1 := [(0, .ref v0), (2, .int v2)]) [0, 2] rfl ?_
      exact zBM_pagesInUse_29 hG C N hD hd hK hr h
    · replace h := iteF h hc
      refine zz_iconst (v := 1) C ddM_pagesInUse_24 (by decide) ?_
      refine zz_goto (tgt := 29) C ddM_pagesInUse_25 rfl ?_
      refine zz_loc (L1 := [(0, .ref v0), (2, .int v2)]) [0, 2] rfl ?_
      exact zBM_pagesInUse_29 hG C N hD hd hK hr h
set_option maxHeartbeats 2000000 in
theorem zLM_pagesInUse_4 {G : GXM} {X : CxM} (hG : GokM G) (C : CoM G X cM_pagesInUse "HomeFreedModel") (N : mLM X = 3) {d : Nat} (hD : dpM X = d) (hd : 1 ≤ d) {v0 : Nat} {q : (Int32 × Mem)} : ∀ (f : Nat) (v1 : Int32) (v2 : Int32) (M : Mem), LM_pagesInUse_4 f v0 v1 v2 M = some q → (hr : ∀ r : Int32 × Mem, q =  r → EnM G X (some .int) (some (.int r.1)) r.2 0 0) → ZM G X 4 [(0, .ref v0), (1, .int v1), (2, .int v2)] [] M 0 0 := by
  intro f
  induction f with
  | zero => intro v1 v2 M h; cases h
  | succ f ih =>
    intro v1 v2 M h hr
    exact zBM_pagesInUse_4 hG C N hD hd (K := LM_pagesInUse_4 f) (q := q) (fun v1 v2 M h => ih v1 v2 M h hr) hr h
set_option maxHeartbeats 2000000 in
theorem xM_pagesInUse {G : GXM} {l : Launch} (hG : GokM G) (d : Nat) (hd : 1 ≤ d) {v0 : Nat} {M : Mem} {q : Int32 × Mem} (h : fM_pagesInUse v0 M = some q) : ExM G l d 0 0 yM_pagesInUse cM_pagesInUse 3 (some .int) [.ref v0] M (some (.int q.1)) q.2 := by
  refine ex_of hG (by decide) (Nat.le_of_ble_eq_true rfl) ?_
  intro X hl C E N hD hn
  show ZM G X 0 [(2, .int v2), (1, .int v1), (0, .ref v0)] [] M 0 0
  unfold fM_pagesInUse at h
  refine zz_iconst (v := 0) C ddM_pagesInUse_0 (by decide) ?_
  refine zz_istore_n (L1 := [(1, .int 0), (0, .ref v0)]) C ddM_pagesInUse_1 rfl N (by decide) rfl ?_
  refine zz_iconst (v := 0) C ddM_pagesInUse_2 (by decide) ?_
  refine zz_istore_n (L1 := [(2, .int 0), (1, .int 0), (0, .ref v0)]) C ddM_pagesInUse_3 rfl N (by decide) rfl ?_
  refine zz_loc (L1 := [(0, .ref v0), (1, .int 0), (2, .int 0)]) [2, 1, 0] rfl ?_
  obtain ⟨q1, hq1, h⟩ := bindN h
  refine zLM_pagesInUse_4 hG C N hD hd 1000000 _ _ _ hq1 ?_
  · intro r2 eq1; subst eq1
    obtain rfl := Option.some.inj h
    exact E
theorem ddM_run_0 : decode cM_run 0 = .ok (.aload_n 0, 1) := by decide +kernel
theorem ddM_run_1 : decode cM_run 1 = .ok (.iload_n 1, 1) := by decide +kernel
theorem ddM_run_2 : decode cM_run 2 = .ok (.invokevirtual 321, 3) := by decide +kernel
theorem ddM_run_5 : decode cM_run 5 = .ok (.ifCond .eq 12, 3) := by decide +kernel
theorem ddM_run_8 : decode cM_run 8 = .ok (.iload_n 2, 1) := by decide +kernel
theorem ddM_run_9 : decode cM_run 9 = .ok (.iconst 0, 1) := by decide +kernel
theorem ddM_run_10 : decode cM_run 10 = .ok (.iconst 2, 1) := by decide +kernel
theorem ddM_run_11 : decode cM_run 11 = .ok (.invokestatic 75, 3) := by decide +kernel
theorem ddM_run_14 : decode cM_run 14 = .ok (.ifCond .ne 5, 3) := by decide +kernel
theorem ddM_run_17 : decode cM_run 17 = .ok (.iconst (-1), 1) := by decide +kernel
theorem ddM_run_18 : decode cM_run 18 = .ok (.ireturn, 1) := by decide +kernel
theorem ddM_run_19 : decode cM_run 19 = .ok (.aload_n 0, 1) := by decide +kernel
theorem ddM_run_20 : decode cM_run 20 = .ok (.iconst 0, 1) := by decide +kernel
theorem ddM_run_21 : decode cM_run 21 = .ok (.invokevirtual 351, 3) := by decide +kernel
theorem ddM_run_24 : decode cM_run 24 = .ok (.aload_n 0, 1) := by decide +kernel
theorem ddM_run_25 : decode cM_run 25 = .ok (.iload_n 1, 1) := by decide +kernel
theorem ddM_run_26 : decode cM_run 26 = .ok (.iconst 0, 1) := by decide +kernel
theorem ddM_run_27 : decode cM_run 27 = .ok (.invokevirtual 324, 3) := by decide +kernel
theorem ddM_run_30 : decode cM_run 30 = .ok (.istore_n 3, 1) := by decide +kernel
theorem ddM_run_31 : decode cM_run 31 = .ok (.iload_n 2, 1) := by decide +kernel
theorem ddM_run_32 : decode cM_run 32 = .ok (.ifCond .ne 7, 3) := by decide +kernel
theorem ddM_run_35 : decode cM_run 35 = .ok (.iload_n 3, 1) := by decide +kernel
theorem ddM_run_36 : decode cM_run 36 = .ok (.goto 19, 3) := by decide +kernel
theorem ddM_run_39 : decode cM_run 39 = .ok (.iload_n 2, 1) := by decide +kernel
theorem ddM_run_40 : decode cM_run 40 = .ok (.iconst 1, 1) := by decide +kernel
theorem ddM_run_41 : decode cM_run 41 = .ok (.if_icmp .ne 10, 3) := by decide +kernel
theorem ddM_run_44 : decode cM_run 44 = .ok (.aload_n 0, 1) := by decide +kernel
theorem ddM_run_45 : decode cM_run 45 = .ok (.invokevirtual 360, 3) := by decide +kernel
theorem ddM_run_48 : decode cM_run 48 = .ok (.goto 7, 3) := by decide +kernel
theorem ddM_run_51 : decode cM_run 51 = .ok (.aload_n 0, 1) := by decide +kernel
theorem ddM_run_52 : decode cM_run 52 = .ok (.invokevirtual 338, 3) := by decide +kernel
theorem ddM_run_55 : decode cM_run 55 = .ok (.istore 4, 2) := by decide +kernel
theorem ddM_run_57 : decode cM_run 57 = .ok (.aload_n 0, 1) := by decide +kernel
theorem ddM_run_58 : decode cM_run 58 = .ok (.iconst 0, 1) := by decide +kernel
theorem ddM_run_59 : decode cM_run 59 = .ok (.invokevirtual 354, 3) := by decide +kernel
theorem ddM_run_62 : decode cM_run 62 = .ok (.iload 4, 2) := by decide +kernel
theorem ddM_run_64 : decode cM_run 64 = .ok (.ireturn, 1) := by decide +kernel
set_option maxHeartbeats 2000000 in
theorem zBM_run_55 {G : GXM} {X : CxM} (hG : GokM G) (C : CoM G X cM_run "HomeFreedModel") (N : mLM X = 5) {d : Nat} (hD : dpM X = d) (hd : 11 ≤ d)  {q : Int32 × Mem} (E : EnM G X (some .int) (some (.int q.1)) q.2 0 0) {v0 : Nat} {w0 : Int32} {M : Mem} (h : BM_run_55 v0 w0 M = some q) : ZM G X 55 [(0, .ref v0)] [.int w0] M 0 0 := by
  unfold BM_run_55 at h
  refine zz_istore (L1 := [(4, .int w0), (0, .ref v0)]) C ddM_run_55 N (by decide) rfl ?_
  refine zz_aload_n C 1 ddM_run_57 rfl rfl ?_
  refine zz_iconst (v := 0) C ddM_run_58 (by decide) ?_
  obtain ⟨h2, h⟩ := gdN h
  obtain ⟨q1, hq1, h⟩ := bindN h
  refine zz_callV0 (As := [.int 0]) C ddM_run_59 wd_1678 my_M_takeBack mv_M_takeBack ⟨_, rfl, rfl⟩ (xM_takeBack hG (d - 1) (by omega) hq1) (by omega) h2 rfl rfl (Nat.le_of_ble_eq_true rfl) ?_
  refine zz_iload C 0 ddM_run_62 rfl ?_
  obtain rfl := Option.some.inj h
  exact zz_iret C E ddM_run_64
set_option maxHeartbeats 2000000 in
theorem zBM_run_17 {G : GXM} {X : CxM} (hG : GokM G) (C : CoM G X cM_run "HomeFreedModel") (N : mLM X = 5) {d : Nat} (hD : dpM X = d) (hd : 11 ≤ d)  {q : Int32 × Mem} (E : EnM G X (some .int) (some (.int q.1)) q.2 0 0) {M : Mem} (h : BM_run_17 M = some q) : ZM G X 17 [] [] M 0 0 := by
  unfold BM_run_17 at h
  refine zz_iconst (v := (-1)) C ddM_run_17 (by decide) ?_
  obtain rfl := Option.some.inj h
  exact zz_iret C E ddM_run_18
set_option maxHeartbeats 2000000 in
theorem xM_run {G : GXM} {l : Launch} (hG : GokM G) (d : Nat) (hd : 11 ≤ d) {v0 : Nat} {v1 : Int32} {v2 : Int32} {M : Mem} {q : Int32 × Mem} (h : fM_run v0 v1 v2 M = some q) : ExM G l d 0 0 yM_run cM_run 5 (some .int) [.ref v0, .int v1, .int v2] M (some (.int q.1)) q.2 := by
  refine ex_of hG (by decide) (Nat.le_of_ble_eq_true rfl) ?_
  intro X hl C E N hD hn
  show ZM G X 0 [(0, .ref v0), (1, .int v1), (2, .int v2)] [] M 0 0
  unfold fM_run at h
  refine zz_aload_n C 0 ddM_run_0 rfl rfl ?_
  refine zz_iload_n C 1 ddM_run_1 rfl rfl ?_
  obtain ⟨h2, h⟩ := gdN h
  obtain ⟨q1, hq1, h⟩ := bindN h
  refine zz_callV0 (As := [.int v1]) C ddM_run_2 wd_1587 my_M_isScript mv_M_isScript ⟨_, rfl, rfl⟩ (xM_isScript hG (d - 1) (by omega) hq1) (by omega) h2 rfl rfl (Nat.le_of_ble_eq_true rfl) ?_
  refine zz_if_eq (tgt := 17) C ddM_run_5 rfl (fun hc => ?_) (fun hc => ?_)
  · replace h := iteT h hc
    refine zz_loc (L1 := []) [] rfl ?_
    exact zBM_run_17 hG C N hD hd E h
  · replace h := iteF h hc
    refine zz_iload_n C 2 ddM_run_8 rfl rfl ?_
    refine zz_iconst (v := 0) C ddM_run_9 (by decide) ?_
    refine zz_iconst (v := 2) C ddM_run_10 (by decide) ?_
    obtain ⟨q3, hq3, h⟩ := bindN h
    refine zz_callS0 (As := [.int v2, .int 0, .int 2]) C ddM_run_11 wd_1289 my_M_in mv_M_in (xM_in hG (d - 1) (by omega) hq3) (by omega) rfl rfl (Nat.le_of_ble_eq_true rfl) ?_
    refine zz_if_ne (tgt := 19) C ddM_run_14 rfl (fun hc => ?_) (fun hc => ?_)
    · replace h := iteF h hc
      refine zz_aload_n C 0 ddM_run_19 rfl rfl ?_
      refine zz_iconst (v := 0) C ddM_run_20 (by decide) ?_
      obtain ⟨h5, h⟩ := gdN h
      obtain ⟨q4, hq4, h⟩ := bindN h
      refine zz_callV0 (As := [.int 0]) C ddM_run_21 wd_1674 my_M_putAside mv_M_putAside ⟨_, rfl, rfl⟩ (xM_putAside hG (d - 1) (by omega) hq4) (by omega) h5 rfl rfl (Nat.le_of_ble_eq_true rfl) ?_
      refine zz_aload_n C 0 ddM_run_24 rfl rfl ?_
      refine zz_iload_n C 1 ddM_run_25 rfl rfl ?_
      refine zz_iconst (v := 0) C ddM_run_26 (by decide) ?_
      obtain ⟨h7, h⟩ := gdN h
      obtain ⟨q6, hq6, h⟩ := bindN h
      refine zz_callV0 (As := [.int v1, .int 0]) C ddM_run_27 wd_1591 my_M_runScript mv_M_runScript ⟨_, rfl, rfl⟩ (xM_runScript hG (d - 1) (by omega) hq6) (by omega) h7 rfl rfl (Nat.le_of_ble_eq_true rfl) ?_
      refine zz_istore_n (L1 := [(3, .int q6.1), (0, .ref v0), (1, .int v1), (2, .int v2)]) C ddM_run_30 rfl N (by decide) rfl ?_
      refine zz_iload_n C 3 ddM_run_31 rfl rfl ?_
      refine zz_if_ne (tgt := 39) C ddM_run_32 rfl (fun hc => ?_) (fun hc => ?_)
      · replace h := iteF h hc
        refine zz_iload_n C 3 ddM_run_39 rfl rfl ?_
        refine zz_iconst (v := 1) C ddM_run_40 (by decide) ?_
        refine zz_icmp_ne (tgt := 51) C ddM_run_41 rfl (fun hc => ?_) (fun hc => ?_)
        · replace h := iteF h hc
          refine zz_aload_n C 1 ddM_run_51 rfl rfl ?_
          obtain ⟨h9, h⟩ := gdN h
          obtain ⟨q8, hq8, h⟩ := bindN h
          refine zz_callV0 (As := []) C ddM_run_52 wd_1633 my_M_heldMany mv_M_heldMany ⟨_, rfl, rfl⟩ (xM_heldMany hG (d - 1) (by omega) hq8) (by omega) h9 rfl rfl (Nat.le_of_ble_eq_true rfl) ?_
          refine zz_loc (L1 := [(0, .ref v0)]) [1] rfl ?_
          exact zBM_run_55 hG C N hD hd E h
        · replace h := iteT h hc
          refine zz_aload_n C 1 ddM_run_44 rfl rfl ?_
          obtain ⟨h11, h⟩ := gdN h
          obtain ⟨q10, hq10, h⟩ := bindN h
          refine zz_callV0 (As := []) C ddM_run_45 wd_1698 my_M_pagesInUse mv_M_pagesInUse ⟨_, rfl, rfl⟩ (xM_pagesInUse hG (d - 1) (by omega) hq10) (by omega) h11 rfl rfl (Nat.le_of_ble_eq_true rfl) ?_
          refine zz_goto (tgt := 55) C ddM_run_48 rfl ?_
          refine zz_loc (L1 := [(0, .ref v0)]) [1] rfl ?_
          exact zBM_run_55 hG C N hD hd E h
      · replace h := iteT h hc
        refine zz_iload_n C 0 ddM_run_35 rfl rfl ?_
        refine zz_goto (tgt := 55) C ddM_run_36 rfl ?_
        refine zz_loc (L1 := [(0, .ref v0)]) [1] rfl ?_
        exact zBM_run_55 hG C N hD hd E h
    · replace h := iteT h hc
      refine zz_loc (L1 := []) [] rfl ?_
      exact zBM_run_17 hG C N hD hd E h
theorem ddM_isFew_0 : decode cM_isFew 0 = .ok (.aload_n 0, 1) := by decide +kernel
theorem ddM_isFew_1 : decode cM_isFew 1 = .ok (.getfield 28, 3) := by decide +kernel
theorem ddM_isFew_4 : decode cM_isFew 4 = .ok (.iload_n 1, 1) := by decide +kernel
theorem ddM_isFew_5 : decode cM_isFew 5 = .ok (.iaload, 1) := by decide +kernel
theorem ddM_isFew_6 : decode cM_isFew 6 = .ok (.bipush 6, 2) := by decide +kernel
theorem ddM_isFew_8 : decode cM_isFew 8 = .ok (.if_icmp .gt 7, 3) := by decide +kernel
theorem ddM_isFew_11 : decode cM_isFew 11 = .ok (.iconst 1, 1) := by decide +kernel
theorem ddM_isFew_12 : decode cM_isFew 12 = .ok (.goto 4, 3) := by decide +kernel
theorem ddM_isFew_15 : decode cM_isFew 15 = .ok (.iconst 0, 1) := by decide +kernel
theorem ddM_isFew_16 : decode cM_isFew 16 = .ok (.istore_n 2, 1) := by decide +kernel
theorem ddM_isFew_17 : decode cM_isFew 17 = .ok (.iconst 0, 1) := by decide +kernel
theorem ddM_isFew_18 : decode cM_isFew 18 = .ok (.istore_n 3, 1) := by decide +kernel
theorem ddM_isFew_19 : decode cM_isFew 19 = .ok (.iload_n 3, 1) := by decide +kernel
theorem ddM_isFew_20 : decode cM_isFew 20 = .ok (.aload_n 0, 1) := by decide +kernel
theorem ddM_isFew_21 : decode cM_isFew 21 = .ok (.getfield 28, 3) := by decide +kernel
theorem ddM_isFew_24 : decode cM_isFew 24 = .ok (.iload_n 1, 1) := by decide +kernel
theorem ddM_isFew_25 : decode cM_isFew 25 = .ok (.iaload, 1) := by decide +kernel
theorem ddM_isFew_26 : decode cM_isFew 26 = .ok (.if_icmp .ge 30, 3) := by decide +kernel
theorem ddM_isFew_29 : decode cM_isFew 29 = .ok (.iload_n 2, 1) := by decide +kernel
theorem ddM_isFew_30 : decode cM_isFew 30 = .ok (.ifCond .eq 18, 3) := by decide +kernel
theorem ddM_isFew_33 : decode cM_isFew 33 = .ok (.aload_n 0, 1) := by decide +kernel
theorem ddM_isFew_34 : decode cM_isFew 34 = .ok (.iload_n 1, 1) := by decide +kernel
theorem ddM_isFew_35 : decode cM_isFew 35 = .ok (.iload_n 3, 1) := by decide +kernel
theorem ddM_isFew_36 : decode cM_isFew 36 = .ok (.iconst 0, 1) := by decide +kernel
theorem ddM_isFew_37 : decode cM_isFew 37 = .ok (.invokevirtual 256, 3) := by decide +kernel
theorem ddM_isFew_40 : decode cM_isFew 40 = .ok (.iconst 5, 1) := by decide +kernel
theorem ddM_isFew_41 : decode cM_isFew 41 = .ok (.if_icmp .ge 7, 3) := by decide +kernel
theorem ddM_isFew_44 : decode cM_isFew 44 = .ok (.iconst 1, 1) := by decide +kernel
theorem ddM_isFew_45 : decode cM_isFew 45 = .ok (.goto 4, 3) := by decide +kernel
theorem ddM_isFew_48 : decode cM_isFew 48 = .ok (.iconst 0, 1) := by decide +kernel
theorem ddM_isFew_49 : decode cM_isFew 49 = .ok (.istore_n 2, 1) := by decide +kernel
theorem ddM_isFew_50 : decode cM_isFew 50 = .ok (.iinc 3 1, 3) := by decide +kernel
theorem ddM_isFew_53 : decode cM_isFew 53 = .ok (.goto (-34), 3) := by decide +kernel
theorem ddM_isFew_56 : decode cM_isFew 56 = .ok (.iload_n 2, 1) := by decide +kernel
theorem ddM_isFew_57 : decode cM_isFew 57 = .ok (.ireturn, 1) := by decide +kernel
set_option maxHeartbeats 2000000 in
theorem zBM_isFew_49 {G : GXM} {X : CxM} (hG : GokM G) (C : CoM G X cM_isFew "HomeFreedModel") (N : mLM X = 4) {d : Nat} (hD : dpM X = d) (hd : 1 ≤ d) {v0 : Nat} {v1 : Int32} {K : Nat → Int32 → Int32 → Int32 → Mem → Option ((Int32 × Mem))} {q : (Int32 × Mem)} (hK : ∀ (v2 : Int32) (v3 : Int32) (M : Mem), K v0 v1 v2 v3 M = some q → ZM G X 19 [(0, .ref v0), (1, .int v1), (2, .int v2), (3, .int v3)] [] M 0 0) (hr : ∀ r : Int32 × Mem, q =  r → EnM G X (some .boolean) (some (.int r.1)) r.2 0 0) {v3 : Int32} {w0 : Int32} {M : Mem} (h : BM_isFew_49 K v0 v1 v3 w0 M = some q) : ZM G X 49 [(0, .ref v0), (1, .int v1), (3, .int v3)] [.int w0] M 0 0 := by
  unfold BM_isFew_49 at h
  refine zz_istore_n (L1 := [(2, .int w0), (0, .ref v0), (1, .int v1), (3, .int v3)]) C ddM_isFew_49 rfl N (by decide) rfl ?_
  refine zz_iinc (v := v3 + 1) (L1 := [(3, .int (v3 + 1)), (2, .int w0), (0, .ref v0), (1, .int v1)]) C 3 ddM_isFew_50 rfl rfl N (by decide) rfl ?_
  refine zz_goto (tgt := 19) C ddM_isFew_53 rfl ?_
  refine zz_loc (L1 := [(0, .ref v0), (1, .int v1), (2, .int w0), (3, .int (v3 + 1))]) [2, 3, 1, 0] rfl ?_
  exact hK _ _ _ h
set_option maxHeartbeats 2000000 in
theorem zBM_isFew_48 {G : GXM} {X : CxM} (hG : GokM G) (C : CoM G X cM_isFew "HomeFreedModel") (N : mLM X = 4) {d : Nat} (hD : dpM X = d) (hd : 1 ≤ d) {v0 : Nat} {v1 : Int32} {K : Nat → Int32 → Int32 → Int32 → Mem → Option ((Int32 × Mem))} {q : (Int32 × Mem)} (hK : ∀ (v2 : Int32) (v3 : Int32) (M : Mem), K v0 v1 v2 v3 M = some q → ZM G X 19 [(0, .ref v0), (1, .int v1), (2, .int v2), (3, .int v3)] [] M 0 0) (hr : ∀ r : Int32 × Mem, q =  r → EnM G X (some .boolean) (some (.int r.1)) r.2 0 0) {v3 : Int32} {M : Mem} (h : BM_isFew_48 K v0 v1 v3 M = some q) : ZM G X 48 [(0, .ref v0), (1, .int v1), (3, .int v3)] [] M 0 0 := by
  unfold BM_isFew_48 at h
  refine zz_iconst (v := 0) C ddM_isFew_48 (by decide) ?_
  exact zBM_isFew_49 hG C N hD hd hK hr h
set_option maxHeartbeats 2000000 in
theorem zBM_isFew_19 {G : GXM} {X : CxM} (hG : GokM G) (C : CoM G X cM_isFew "HomeFreedModel") (N : mLM X = 4) {d : Nat} (hD : dpM X = d) (hd : 1 ≤ d) {v0 : Nat} {v1 : Int32} {K : Nat → Int32 → Int32 → Int32 → Mem → Option ((Int32 × Mem))} {q : (Int32 × Mem)} (hK : ∀ (v2 : Int32) (v3 : Int32) (M : Mem), K v0 v1 v2 v3 M = some q → ZM G X 19 [(0, .ref v0), (1, .int v1), (2, .int v2), (3, .int v3)] [] M 0 0) (hr : ∀ r : Int32 × Mem, q =  r → EnM G X (some .boolean) (some (.int r.1)) r.2 0 0) {v2 : Int32} {v3 : Int32} {M : Mem} (h : BM_isFew_19 K v0 v1 v2 v3 M = some q) : ZM G X 19 [(0, .ref v0), (1, .int v1), (2, .int v2), (3, .int v3)] [] M 0 0 := by
  unfold BM_isFew_19 at h
  refine zz_iload_n C 3 ddM_isFew_19 rfl rfl ?_
  refine zz_aload_n C 0 ddM_isFew_20 rfl rfl ?_
  obtain ⟨h1, h⟩ := gdN h
  obtain ⟨h2, h⟩ := gdN h
  refine zz_getr C ddM_isFew_21 fl_M_28 rfl h1 (of_decide_eq_true h2) ?_
  refine zz_iload_n C 1 ddM_isFew_24 rfl rfl ?_
  obtain ⟨h3, h⟩ := gdN h
  refine zz_iaload C ddM_isFew_25 h3 ?_
  refine zz_icmp_ge (tgt := 56) C ddM_isFew_26 rfl (fun hc => ?_) (fun hc => ?_)
  · replace h := iteT h hc
    refine zz_iload_n C 2 ddM_isFew_56 rfl rfl ?_
    obtain ⟨h4, h⟩ := gdN h
    exact zz_zret C (of_decide_eq_true h4) (hr _ (Option.some.inj h).symm) ddM_isFew_57
  · replace h := iteF h hc
    refine zz_iload_n C 2 ddM_isFew_29 rfl rfl ?_
    refine zz_if_eq (tgt := 48) C ddM_isFew_30 rfl (fun hc => ?_) (fun hc => ?_)
    · replace h := iteT h hc
      refine zz_loc (L1 := [(0, .ref v0), (1, .int v1), (3, .int v3)]) [0, 1, 3] rfl ?_
      exact zBM_isFew_48 hG C N hD hd hK hr h
    · replace h := iteF h hc
      refine zz_aload_n C 0 ddM_isFew_33 rfl rfl ?_
      refine zz_iload_n C 1 ddM_isFew_34 rfl rfl ?_
      refine zz_iload_n C 3 ddM_isFew_35 rfl rfl ?_
      refine zz_iconst (v := 0) C ddM_isFew_36 (by decide) ?_
      obtain ⟨q5, hq5, h⟩ := bindN h
      refine zz_callV0 (As := [.int v1, .int v3, .int 0]) C ddM_isFew_37 wd_1599 my_M_stepOf mv_M_stepOf ⟨_, rfl, rfl⟩ (xM_stepOf hG (d - 1) (by omega) hq5) (by omega) h1 rfl rfl (Nat.le_of_ble_eq_true rfl) ?_
      refine zz_iconst (v := 5) C ddM_isFew_40 (by decide) ?_
      refine zz_icmp_ge (tgt := 48) C ddM_isFew_41 rfl (fun hc => ?_) (fun hc => ?_)
      · replace h := iteT h hc
        refine zz_loc (L1 := [(0, .ref v0), (1, .int v1), (3, .int v3)]) [0, 1, 3] rfl ?_
        exact zBM_isFew_48 hG C N hD hd hK hr h
      · replace h := iteF h hc
        refine zz_iconst (v := 1) C ddM_isFew_44 (by decide) ?_
        refine zz_goto (tgt := 49) C ddM_isFew_45 rfl ?_
        refine zz_loc (L1 := [(0, .ref v0), (1, .int v1), (3, .int v3)]) [0, 1, 3] rfl ?_
        exact zBM_isFew_49 hG C N hD hd hK hr h
set_option maxHeartbeats 2000000 in
theorem zLM_isFew_19 {G : GXM} {X : CxM} (hG : GokM G) (C : CoM G X cM_isFew "HomeFreedModel") (N : mLM X = 4) {d : Nat} (hD : dpM X = d) (hd : 1 ≤ d) {v0 : Nat} {v1 : Int32} {q : (Int32 × Mem)} : ∀ (f : Nat) (v2 : Int32) (v3 : Int32) (M : Mem), LM_isFew_19 f v0 v1 v2 v3 M = some q → (hr : ∀ r : Int32 × Mem, q =  r → EnM G X (some .boolean) (some (.int r.1)) r.2 0 0) → ZM G X 19 [(0, .ref v0), (1, .int v1), (2, .int v2), (3, .int v3)] [] M 0 0 := by
  intro f
  induction f with
  | zero => intro v2 v3 M h; cases h
  | succ f ih =>
    intro v2 v3 M h hr
    exact zBM_isFew_19 hG C N hD hd (K := LM_isFew_19 f) (q := q) (fun v2 v3 M h => ih v2 v3 M h hr) hr h
set_option maxHeartbeats 2000000 in
theorem zBM_isFew_16 {G : GXM} {X : CxM} (hG : GokM G) (C : CoM G X cM_isFew "HomeFreedModel") (N : mLM X = 4) {d : Nat} (hD : dpM X = d) (hd : 1 ≤ d)  {q : Int32 × Mem} (E : EnM G X (some .boolean) (some (.int q.1)) q.2 0 0) {v0 : Nat} {v1 : Int32} {w0 : Int32} {M : Mem} (h : BM_isFew_16 v0 v1 w0 M = some q) : ZM G X 16 [(0, .ref v0), (1, .int v1)] [.int w0] M 0 0 := by
  unfold BM_isFew_16 at h
  refine zz_istore_n (L1 := [(2, .int w0), (0, .ref v0), (1, .int v1)]) C ddM_isFew_16 rfl N (by decide) rfl ?_
  refine zz_iconst (v := 0) C ddM_isFew_17 (by decide) ?_
  refine zz_istore_n (L1 := [(3, .int 0), (2, .int w0), (0, .ref v0), (1, .int v1)]) C ddM_isFew_18 rfl N (by decide) rfl ?_
  refine zz_loc (L1 := [(0, .ref v0), (1, .int v1), (2, .int w0), (3, .int 0)]) [2, 3, 1, 0] rfl ?_
  obtain ⟨q1, hq1, h⟩ := bindN h
  refine zLM_isFew_19 hG C N hD hd 1000000 _ _ _ hq1 ?_
  · intro r2 eq1; subst eq1
    obtain rfl := Option.some.inj h
    exact E
set_option maxHeartbeats 2000000 in
theorem xM_isFew {G : GXM} {l : Launch} (hG : GokM G) (d : Nat) (hd : 1 ≤ d) {v0 : Nat} {v1 : Int32} {M : Mem} {q : Int32 × Mem} (h : fM_isFew v0 v1 M = some q) : ExM G l d 0 0 yM_isFew cM_isFew 4 (some .boolean) [.ref v0, .int v1] M (some (.int q.1)) q.2 := by
  refine ex_of hG (by decide) (Nat.le_of_ble_eq_true rfl) ?_
  intro X hl C E N hD hn
  show ZM G X 0 [(0, .ref v0), (1, .int v1)] [] M 0 0
  unfold fM_isFew at h
  refine zz_aload_n C 0 ddM_isFew_0 rfl rfl ?_
  obtain ⟨h1, h⟩ := gdN h
  obtain ⟨h2, h⟩ := gdN h
  refine zz_getr C ddM_isFew_1 fl_M_28 rfl h1 (of_decide_eq_true h2) ?_
  refine zz_iload_n C 1 ddM_isFew_4 rfl rfl ?_
  obtain ⟨h3, h⟩ := gdN h
  refine zz_iaload C ddM_isFew_5 h3 ?_
  refine zz_bipush (v := 6) C ddM_isFew_6 (by decide) ?_
  refine zz_icmp_gt (tgt := 15) C ddM_isFew_8 rfl (fun hc => ?_) (fun hc => ?_)
  · replace h := iteT h hc
    refine zz_iconst (v := 0) C ddM_isFew_15 (by decide) ?_
    exact zBM_isFew_16 hG C N hD hd E h
  · replace h := iteF h hc
    refine zz_iconst (v := 1) C ddM_isFew_11 (by decide) ?_
    refine zz_goto (tgt := 16) C ddM_isFew_12 rfl ?_
    exact zBM_isFew_16 hG C N hD hd E h
theorem ddM_endWay_0 : decode cM_endWay 0 = .ok (.aload_n 0, 1) := by decide +kernel
theorem ddM_endWay_1 : decode cM_endWay 1 = .ok (.aload_n 0, 1) := by decide +kernel
theorem ddM_endWay_2 : decode cM_endWay 2 = .ok (.getfield 363, 3) := by decide +kernel
theorem ddM_endWay_5 : decode cM_endWay 5 = .ok (.aload_n 0, 1) := by decide +kernel
theorem ddM_endWay_6 : decode cM_endWay 6 = .ok (.invokevirtual 360, 3) := by decide +kernel
theorem ddM_endWay_9 : decode cM_endWay 9 = .ok (.invokestatic 366, 3) := by decide +kernel
theorem ddM_endWay_12 : decode cM_endWay 12 = .ok (.putfield 363, 3) := by decide +kernel
theorem ddM_endWay_15 : decode cM_endWay 15 = .ok (.aload_n 0, 1) := by decide +kernel
theorem ddM_endWay_16 : decode cM_endWay 16 = .ok (.aload_n 0, 1) := by decide +kernel
theorem ddM_endWay_17 : decode cM_endWay 17 = .ok (.getfield 371, 3) := by decide +kernel
theorem ddM_endWay_20 : decode cM_endWay 20 = .ok (.iconst (-1), 1) := by decide +kernel
theorem ddM_endWay_21 : decode cM_endWay 21 = .ok (.if_icmp .ne 10, 3) := by decide +kernel
theorem ddM_endWay_24 : decode cM_endWay 24 = .ok (.aload_n 0, 1) := by decide +kernel
theorem ddM_endWay_25 : decode cM_endWay 25 = .ok (.invokevirtual 360, 3) := by decide +kernel
theorem ddM_endWay_28 : decode cM_endWay 28 = .ok (.goto 14, 3) := by decide +kernel
theorem ddM_endWay_31 : decode cM_endWay 31 = .ok (.aload_n 0, 1) := by decide +kernel
theorem ddM_endWay_32 : decode cM_endWay 32 = .ok (.getfield 371, 3) := by decide +kernel
theorem ddM_endWay_35 : decode cM_endWay 35 = .ok (.aload_n 0, 1) := by decide +kernel
theorem ddM_endWay_36 : decode cM_endWay 36 = .ok (.invokevirtual 360, 3) := by decide +kernel
theorem ddM_endWay_39 : decode cM_endWay 39 = .ok (.invokestatic 374, 3) := by decide +kernel
theorem ddM_endWay_42 : decode cM_endWay 42 = .ok (.putfield 371, 3) := by decide +kernel
theorem ddM_endWay_45 : decode cM_endWay 45 = .ok (.return_, 1) := by decide +kernel
set_option maxHeartbeats 2000000 in
theorem zBM_endWay_42 {G : GXM} {X : CxM} (hG : GokM G) (C : CoM G X cM_endWay "HomeFreedModel") (N : mLM X = 1) {d : Nat} (hD : dpM X = d) (hd : 2 ≤ d)  {q : Mem} (E : EnM G X none none q 0 0) {w0 : Nat} {w1 : Int32} {M : Mem} (h : BM_endWay_42 w0 w1 M = some q) : ZM G X 42 [] [.int w1, .ref w0] M 0 0 := by
  unfold BM_endWay_42 at h
  obtain ⟨h1, h⟩ := gdN h
  refine zz_puti C ddM_endWay_42 fl_M_371 rfl rfl rfl h1 ?_
  obtain rfl := Option.some.inj h
  exact zz_vret C E ddM_endWay_45
set_option maxHeartbeats 2000000 in
theorem xM_endWay {G : GXM} {l : Launch} (hG : GokM G) (d : Nat) (hd : 2 ≤ d) {v0 : Nat} {M : Mem} {q : Mem} (h : fM_endWay v0 M = some q) : ExM G l d 0 0 yM_endWay cM_endWay 1 none [.ref v0] M none q := by
  refine ex_of hG (by decide) (Nat.le_of_ble_eq_true rfl) ?_
  intro X hl C E N hD hn
  show ZM G X 0 [(0, .ref v0)] [] M 0 0
  unfold fM_endWay at h
  refine zz_aload_n C 0 ddM_endWay_0 rfl rfl ?_
  refine zz_aload_n C 0 ddM_endWay_1 rfl rfl ?_
  obtain ⟨h1, h⟩ := gdN h
  refine zz_geti C ddM_endWay_2 fl_M_363 rfl h1 ?_
  refine zz_aload_n C 0 ddM_endWay_5 rfl rfl ?_
  obtain ⟨q2, hq2, h⟩ := bindN h
  refine zz_callV0 (As := []) C ddM_endWay_6 wd_1698 my_M_pagesInUse mv_M_pagesInUse ⟨_, rfl, rfl⟩ (xM_pagesInUse hG (d - 1) (by omega) hq2) (by omega) h1 rfl rfl (Nat.le_of_ble_eq_true rfl) ?_
  obtain ⟨q3, hq3, h⟩ := bindN h
  refine zz_callS0 (As := [.int (giM M v0 30), .int q2.1]) C ddM_endWay_9 wd_1718 my_K_max mv_K_max (xK_max hG (d - 1) (by omega) hq3) (by omega) rfl rfl (Nat.le_of_ble_eq_true rfl) ?_
  obtain ⟨h4, h⟩ := gdN h
  refine zz_puti C ddM_endWay_12 fl_M_363 rfl rfl rfl h4 ?_
  refine zz_aload_n C 0 ddM_endWay_15 rfl rfl ?_
  refine zz_aload_n C 0 ddM_endWay_16 rfl rfl ?_
  refine zz_geti C ddM_endWay_17 fl_M_371 rfl h4 ?_
  refine zz_iconst (v := (-1)) C ddM_endWay_20 (by decide) ?_
  refine zz_icmp_ne (tgt := 31) C ddM_endWay_21 rfl (fun hc => ?_) (fun hc => ?_)
  · replace h := iteF h hc
    refine zz_aload_n C 0 ddM_endWay_31 rfl rfl ?_
    refine zz_geti C ddM_endWay_32 fl_M_371 rfl h4 ?_
    refine zz_aload_n C 0 ddM_endWay_35 rfl rfl ?_
    obtain ⟨q5, hq5, h⟩ := bindN h
    refine zz_callV0 (As := []) C ddM_endWay_36 wd_1698 my_M_pagesInUse mv_M_pagesInUse ⟨_, rfl, rfl⟩ (xM_pagesInUse hG (d - 1) (by omega) hq5) (by omega) h4 rfl rfl (Nat.le_of_ble_eq_true rfl) ?_
    obtain ⟨q6, hq6, h⟩ := bindN h
    refine zz_callS0 (As := [.int (giM (siM q3.2 v0 30 q3.1) v0 31), .int q5.1]) C ddM_endWay_39 wd_1719 my_K_min mv_K_min (xK_min hG (d - 1) (by omega) hq6) (by omega) rfl rfl (Nat.le_of_ble_eq_true rfl) ?_
    refine zz_loc (L1 := []) [] rfl ?_
    exact zBM_endWay_42 hG C N hD hd E h
  · replace h := iteT h hc
    refine zz_aload_n C 0 ddM_endWay_24 rfl rfl ?_
    obtain ⟨q7, hq7, h⟩ := bindN h
    refine zz_callV0 (As := []) C ddM_endWay_25 wd_1698 my_M_pagesInUse mv_M_pagesInUse ⟨_, rfl, rfl⟩ (xM_pagesInUse hG (d - 1) (by omega) hq7) (by omega) h4 rfl rfl (Nat.le_of_ble_eq_true rfl) ?_
    refine zz_goto (tgt := 42) C ddM_endWay_28 rfl ?_
    refine zz_loc (L1 := []) [] rfl ?_
    exact zBM_endWay_42 hG C N hD hd E h
theorem ddM_goWays_0 : decode cM_goWays 0 = .ok (.iload_n 3, 1) := by decide +kernel
theorem ddM_goWays_1 : decode cM_goWays 1 = .ok (.aload_n 0, 1) := by decide +kernel
theorem ddM_goWays_2 : decode cM_goWays 2 = .ok (.getfield 28, 3) := by decide +kernel
theorem ddM_goWays_5 : decode cM_goWays 5 = .ok (.iload_n 1, 1) := by decide +kernel
theorem ddM_goWays_6 : decode cM_goWays 6 = .ok (.iaload, 1) := by decide +kernel
theorem ddM_goWays_7 : decode cM_goWays 7 = .ok (.if_icmp .ne 29, 3) := by decide +kernel
theorem ddM_goWays_10 : decode cM_goWays 10 = .ok (.iload 4, 2) := by decide +kernel
theorem ddM_goWays_12 : decode cM_goWays 12 = .ok (.aload_n 0, 1) := by decide +kernel
theorem ddM_goWays_13 : decode cM_goWays 13 = .ok (.getfield 28, 3) := by decide +kernel
theorem ddM_goWays_16 : decode cM_goWays 16 = .ok (.iload_n 2, 1) := by decide +kernel
theorem ddM_goWays_17 : decode cM_goWays 17 = .ok (.iaload, 1) := by decide +kernel
theorem ddM_goWays_18 : decode cM_goWays 18 = .ok (.if_icmp .ne 18, 3) := by decide +kernel
theorem ddM_goWays_21 : decode cM_goWays 21 = .ok (.aload_n 0, 1) := by decide +kernel
theorem ddM_goWays_22 : decode cM_goWays 22 = .ok (.dup, 1) := by decide +kernel
theorem ddM_goWays_23 : decode cM_goWays 23 = .ok (.getfield 377, 3) := by decide +kernel
theorem ddM_goWays_26 : decode cM_goWays 26 = .ok (.iconst 1, 1) := by decide +kernel
theorem ddM_goWays_27 : decode cM_goWays 27 = .ok (.iadd, 1) := by decide +kernel
theorem ddM_goWays_28 : decode cM_goWays 28 = .ok (.putfield 377, 3) := by decide +kernel
theorem ddM_goWays_31 : decode cM_goWays 31 = .ok (.aload_n 0, 1) := by decide +kernel
theorem ddM_goWays_32 : decode cM_goWays 32 = .ok (.invokevirtual 380, 3) := by decide +kernel
theorem ddM_goWays_35 : decode cM_goWays 35 = .ok (.return_, 1) := by decide +kernel
theorem ddM_goWays_36 : decode cM_goWays 36 = .ok (.iload_n 3, 1) := by decide +kernel
theorem ddM_goWays_37 : decode cM_goWays 37 = .ok (.iload 4, 2) := by decide +kernel
theorem ddM_goWays_39 : decode cM_goWays 39 = .ok (.iadd, 1) := by decide +kernel
theorem ddM_goWays_40 : decode cM_goWays 40 = .ok (.istore 5, 2) := by decide +kernel
theorem ddM_goWays_42 : decode cM_goWays 42 = .ok (.iconst 0, 1) := by decide +kernel
theorem ddM_goWays_43 : decode cM_goWays 43 = .ok (.istore 6, 2) := by decide +kernel
theorem ddM_goWays_45 : decode cM_goWays 45 = .ok (.iload 6, 2) := by decide +kernel
theorem ddM_goWays_47 : decode cM_goWays 47 = .ok (.iconst 2, 1) := by decide +kernel
theorem ddM_goWays_48 : decode cM_goWays 48 = .ok (.if_icmp .ge 178, 3) := by decide +kernel
theorem ddM_goWays_51 : decode cM_goWays 51 = .ok (.iload 6, 2) := by decide +kernel
theorem ddM_goWays_53 : decode cM_goWays 53 = .ok (.ifCond .ne 7, 3) := by decide +kernel
theorem ddM_goWays_56 : decode cM_goWays 56 = .ok (.iload_n 1, 1) := by decide +kernel
theorem ddM_goWays_57 : decode cM_goWays 57 = .ok (.goto 4, 3) := by decide +kernel
theorem ddM_goWays_60 : decode cM_goWays 60 = .ok (.iload_n 2, 1) := by decide +kernel
theorem ddM_goWays_61 : decode cM_goWays 61 = .ok (.istore 7, 2) := by decide +kernel
theorem ddM_goWays_63 : decode cM_goWays 63 = .ok (.iload 6, 2) := by decide +kernel
theorem ddM_goWays_65 : decode cM_goWays 65 = .ok (.ifCond .ne 7, 3) := by decide +kernel
theorem ddM_goWays_68 : decode cM_goWays 68 = .ok (.iload_n 3, 1) := by decide +kernel
theorem ddM_goWays_69 : decode cM_goWays 69 = .ok (.goto 5, 3) := by decide +kernel
theorem ddM_goWays_72 : decode cM_goWays 72 = .ok (.iload 4, 2) := by decide +kernel
theorem ddM_goWays_74 : decode cM_goWays 74 = .ok (.istore 8, 2) := by decide +kernel
theorem ddM_goWays_76 : decode cM_goWays 76 = .ok (.iload 8, 2) := by decide +kernel
theorem ddM_goWays_78 : decode cM_goWays 78 = .ok (.aload_n 0, 1) := by decide +kernel
theorem ddM_goWays_79 : decode cM_goWays 79 = .ok (.getfield 28, 3) := by decide +kernel
theorem ddM_goWays_82 : decode cM_goWays 82 = .ok (.iload 7, 2) := by decide +kernel
theorem ddM_goWays_84 : decode cM_goWays 84 = .ok (.iaload, 1) := by decide +kernel
theorem ddM_goWays_85 : decode cM_goWays 85 = .ok (.if_icmp .ge 135, 3) := by decide +kernel
theorem ddM_goWays_88 : decode cM_goWays 88 = .ok (.aload_n 0, 1) := by decide +kernel
theorem ddM_goWays_89 : decode cM_goWays 89 = .ok (.iload 7, 2) := by decide +kernel
theorem ddM_goWays_91 : decode cM_goWays 91 = .ok (.iload 8, 2) := by decide +kernel
theorem ddM_goWays_93 : decode cM_goWays 93 = .ok (.iload 6, 2) := by decide +kernel
theorem ddM_goWays_95 : decode cM_goWays 95 = .ok (.invokevirtual 291, 3) := by decide +kernel
theorem ddM_goWays_98 : decode cM_goWays 98 = .ok (.ifCond .eq 118, 3) := by decide +kernel
theorem ddM_goWays_101 : decode cM_goWays 101 = .ok (.aload_n 0, 1) := by decide +kernel
theorem ddM_goWays_102 : decode cM_goWays 102 = .ok (.iload 5, 2) := by decide +kernel
theorem ddM_goWays_104 : decode cM_goWays 104 = .ok (.invokevirtual 351, 3) := by decide +kernel
theorem ddM_goWays_107 : decode cM_goWays 107 = .ok (.aload_n 0, 1) := by decide +kernel
theorem ddM_goWays_108 : decode cM_goWays 108 = .ok (.iload 7, 2) := by decide +kernel
theorem ddM_goWays_110 : decode cM_goWays 110 = .ok (.iload 8, 2) := by decide +kernel
theorem ddM_goWays_112 : decode cM_goWays 112 = .ok (.iconst 0, 1) := by decide +kernel
theorem ddM_goWays_113 : decode cM_goWays 113 = .ok (.invokevirtual 256, 3) := by decide +kernel
theorem ddM_goWays_116 : decode cM_goWays 116 = .ok (.istore 9, 2) := by decide +kernel
theorem ddM_goWays_118 : decode cM_goWays 118 = .ok (.aload_n 0, 1) := by decide +kernel
theorem ddM_goWays_119 : decode cM_goWays 119 = .ok (.iload 7, 2) := by decide +kernel
theorem ddM_goWays_121 : decode cM_goWays 121 = .ok (.iload 8, 2) := by decide +kernel
theorem ddM_goWays_123 : decode cM_goWays 123 = .ok (.iload 6, 2) := by decide +kernel
theorem ddM_goWays_125 : decode cM_goWays 125 = .ok (.iconst 0, 1) := by decide +kernel
theorem ddM_goWays_126 : decode cM_goWays 126 = .ok (.invokevirtual 294, 3) := by decide +kernel
theorem ddM_goWays_129 : decode cM_goWays 129 = .ok (.aload_n 0, 1) := by decide +kernel
theorem ddM_goWays_130 : decode cM_goWays 130 = .ok (.iload_n 1, 1) := by decide +kernel
theorem ddM_goWays_131 : decode cM_goWays 131 = .ok (.iload_n 2, 1) := by decide +kernel
theorem ddM_goWays_132 : decode cM_goWays 132 = .ok (.iload 6, 2) := by decide +kernel
theorem ddM_goWays_134 : decode cM_goWays 134 = .ok (.ifCond .ne 9, 3) := by decide +kernel
theorem ddM_goWays_137 : decode cM_goWays 137 = .ok (.iload_n 3, 1) := by decide +kernel
theorem ddM_goWays_138 : decode cM_goWays 138 = .ok (.iconst 1, 1) := by decide +kernel
theorem ddM_goWays_139 : decode cM_goWays 139 = .ok (.iadd, 1) := by decide +kernel
theorem ddM_goWays_140 : decode cM_goWays 140 = .ok (.goto 4, 3) := by decide +kernel
theorem ddM_goWays_143 : decode cM_goWays 143 = .ok (.iload_n 3, 1) := by decide +kernel
theorem ddM_goWays_144 : decode cM_goWays 144 = .ok (.iload 6, 2) := by decide +kernel
theorem ddM_goWays_146 : decode cM_goWays 146 = .ok (.ifCond .ne 8, 3) := by decide +kernel
theorem ddM_goWays_149 : decode cM_goWays 149 = .ok (.iload 4, 2) := by decide +kernel
theorem ddM_goWays_151 : decode cM_goWays 151 = .ok (.goto 7, 3) := by decide +kernel
theorem ddM_goWays_154 : decode cM_goWays 154 = .ok (.iload 4, 2) := by decide +kernel
theorem ddM_goWays_156 : decode cM_goWays 156 = .ok (.iconst 1, 1) := by decide +kernel
theorem ddM_goWays_157 : decode cM_goWays 157 = .ok (.iadd, 1) := by decide +kernel
theorem ddM_goWays_158 : decode cM_goWays 158 = .ok (.invokevirtual 383, 3) := by decide +kernel
theorem ddM_goWays_161 : decode cM_goWays 161 = .ok (.aload_n 0, 1) := by decide +kernel
theorem ddM_goWays_162 : decode cM_goWays 162 = .ok (.iload 5, 2) := by decide +kernel
theorem ddM_goWays_164 : decode cM_goWays 164 = .ok (.invokevirtual 354, 3) := by decide +kernel
theorem ddM_goWays_167 : decode cM_goWays 167 = .ok (.iload 9, 2) := by decide +kernel
theorem ddM_goWays_169 : decode cM_goWays 169 = .ok (.ifCond .ne 17, 3) := by decide +kernel
theorem ddM_goWays_172 : decode cM_goWays 172 = .ok (.aload_n 0, 1) := by decide +kernel
theorem ddM_goWays_173 : decode cM_goWays 173 = .ok (.getfield 50, 3) := by decide +kernel
theorem ddM_goWays_176 : decode cM_goWays 176 = .ok (.iload 6, 2) := by decide +kernel
theorem ddM_goWays_178 : decode cM_goWays 178 = .ok (.dup2, 1) := by decide +kernel
theorem ddM_goWays_179 : decode cM_goWays 179 = .ok (.iaload, 1) := by decide +kernel
theorem ddM_goWays_180 : decode cM_goWays 180 = .ok (.iconst 1, 1) := by decide +kernel
theorem ddM_goWays_181 : decode cM_goWays 181 = .ok (.isub, 1) := by decide +kernel
theorem ddM_goWays_182 : decode cM_goWays 182 = .ok (.iastore, 1) := by decide +kernel
theorem ddM_goWays_183 : decode cM_goWays 183 = .ok (.goto 30, 3) := by decide +kernel
theorem ddM_goWays_186 : decode cM_goWays 186 = .ok (.iload 9, 2) := by decide +kernel
theorem ddM_goWays_188 : decode cM_goWays 188 = .ok (.iconst 1, 1) := by decide +kernel
theorem ddM_goWays_189 : decode cM_goWays 189 = .ok (.if_icmp .ne 24, 3) := by decide +kernel
theorem ddM_goWays_192 : decode cM_goWays 192 = .ok (.aload_n 0, 1) := by decide +kernel
theorem ddM_goWays_193 : decode cM_goWays 193 = .ok (.getfield 46, 3) := by decide +kernel
theorem ddM_goWays_196 : decode cM_goWays 196 = .ok (.bipush 24, 2) := by decide +kernel
theorem ddM_goWays_198 : decode cM_goWays 198 = .ok (.iload 6, 2) := by decide +kernel
theorem ddM_goWays_200 : decode cM_goWays 200 = .ok (.imul, 1) := by decide +kernel
theorem ddM_goWays_201 : decode cM_goWays 201 = .ok (.aload_n 0, 1) := by decide +kernel
theorem ddM_goWays_202 : decode cM_goWays 202 = .ok (.iload 7, 2) := by decide +kernel
theorem ddM_goWays_204 : decode cM_goWays 204 = .ok (.iload 8, 2) := by decide +kernel
theorem ddM_goWays_206 : decode cM_goWays 206 = .ok (.iconst 2, 1) := by decide +kernel
theorem ddM_goWays_207 : decode cM_goWays 207 = .ok (.invokevirtual 256, 3) := by decide +kernel
theorem ddM_goWays_210 : decode cM_goWays 210 = .ok (.iadd, 1) := by decide +kernel
theorem ddM_goWays_211 : decode cM_goWays 211 = .ok (.iconst 1, 1) := by decide +kernel
theorem ddM_goWays_212 : decode cM_goWays 212 = .ok (.bastore, 1) := by decide +kernel
theorem ddM_goWays_213 : decode cM_goWays 213 = .ok (.goto 7, 3) := by decide +kernel
theorem ddM_goWays_216 : decode cM_goWays 216 = .ok (.aload_n 0, 1) := by decide +kernel
theorem ddM_goWays_217 : decode cM_goWays 217 = .ok (.invokevirtual 380, 3) := by decide +kernel
theorem ddM_goWays_220 : decode cM_goWays 220 = .ok (.iinc 6 1, 3) := by decide +kernel
theorem ddM_goWays_223 : decode cM_goWays 223 = .ok (.goto (-178), 3) := by decide +kernel
theorem ddM_goWays_226 : decode cM_goWays 226 = .ok (.return_, 1) := by decide +kernel
set_option maxHeartbeats 2000000 in
theorem zBM_goWays_220 {self : Nat → Int32 → Int32 → Int32 → Int32 → Mem → Option (Mem)} {G : GXM} {X : CxM} (hG : GokM G) (C : CoM G X cM_goWays "HomeFreedModel") (N : mLM X = 10) {d : Nat} (hD : dpM X = d) (hd : 10 ≤ d) (hS : ∀ (v0 : Nat) (v1 : Int32) (v2 : Int32) (v3 : Int32) (v4 : Int32) (M : Mem) (q : Mem), self v0 v1 v2 v3 v4 M = some q → ExM G X.2.1 (d - 1) 0 0 yM_goWays cM_goWays 10 none [.ref v0, .int v1, .int v2, .int v3, .int v4] M none q) {v0 : Nat} {v1 : Int32} {v2 : Int32} {v3 : Int32} {v4 : Int32} {v5 : Int32} {K : Nat → Int32 → Int32 → Int32 → Int32 → Int32 → Int32 → Mem → Option ((Mem))} {q : (Mem)} (hK : ∀ (v6 : Int32) (M : Mem), K v0 v1 v2 v3 v4 v5 v6 M = some q → ZM G X 45 [(0, .ref v0), (1, .int v1), (2, .int v2), (3, .int v3), (4, .int v4), (5, .int v5), (6, .int v6)] [] M 0 0) (hr : ∀ r : Mem, q =  r → EnM G X none none r 0 0) {v6 : Int32} {M : Mem} (h : BM_goWays_220 self K v0 v1 v2 v3 v4 v5 v6 M = some q) : ZM G X 220 [(0, .ref v0), (1, .int v1), (2, .int v2), (3, .int v3), (4, .int v4), (5, .int v5), (6, .int v6)] [] M 0 0 := by
  unfold BM_goWays_220 at h
  refine zz_iinc (v := v6 + 1) (L1 := [(6, .int (v6 + 1)), (0, .ref v0), (1, .int v1), (2, .int v2), (3, .int v3), (4, .int v4), (5, .int v5)]) C 6 ddM_goWays_220 rfl rfl N (by decide) rfl ?_
  refine zz_goto (tgt := 45) C ddM_goWays_223 rfl ?_
  refine zz_loc (L1 := [(0, .ref v0), (1, .int v1), (2, .int v2), (3, .int v3), (4, .int v4), (5, .int v5), (6, .int (v6 + 1))]) [1, 2, 3, 4, 5, 6, 0] rfl ?_
  exact hK _ _ h
set_option maxHeartbeats 2000000 in
theorem zBM_goWays_213 {self : Nat → Int32 → Int32 → Int32 → Int32 → Mem → Option (Mem)} {G : GXM} {X : CxM} (hG : GokM G) (C : CoM G X cM_goWays "HomeFreedModel") (N : mLM X = 10) {d : Nat} (hD : dpM X = d) (hd : 10 ≤ d) (hS : ∀ (v0 : Nat) (v1 : Int32) (v2 : Int32) (v3 : Int32) (v4 : Int32) (M : Mem) (q : Mem), self v0 v1 v2 v3 v4 M = some q → ExM G X.2.1 (d - 1) 0 0 yM_goWays cM_goWays 10 none [.ref v0, .int v1, .int v2, .int v3, .int v4] M none q) {v0 : Nat} {v1 : Int32} {v2 : Int32} {v3 : Int32} {v4 : Int32} {v5 : Int32} {K : Nat → Int32 → Int32 → Int32 → Int32 → Int32 → Int32 → Mem → Option ((Mem))} {q : (Mem)} (hK : ∀ (v6 : Int32) (M : Mem), K v0 v1 v2 v3 v4 v5 v6 M = some q → ZM G X 45 [(0, .ref v0), (1, .int v1), (2, .int v2), (3, .int v3), (4, .int v4), (5, .int v5), (6, .int v6)] [] M 0 0) (hr : ∀ r : Mem, q =  r → EnM G X none none r 0 0) {v6 : Int32} {M : Mem} (h : BM_goWays_213 self K v0 v1 v2 v3 v4 v5 v6 M = some q) : ZM G X 213 [(0, .ref v0), (1, .int v1), (2, .int v2), (3, .int v3), (4, .int v4), (5, .int v5), (6, .int v6)] [] M 0 0 := by
  unfold BM_goWays_213 at h
  refine zz_goto (tgt := 220) C ddM_goWays_213 rfl ?_
  exact zBM_goWays_220 hG C N hD hd hS hK hr h
set_option maxHeartbeats 2000000 in
theorem zBM_goWays_158 {self : Nat → Int32 → Int32 → Int32 → Int32 → Mem → Option (Mem)} {G : GXM} {X : CxM} (hG : GokM G) (C : CoM G X cM_goWays "HomeFreedModel") (N : mLM X = 10) {d : Nat} (hD : dpM X = d) (hd : 10 ≤ d) (hS : ∀ (v0 : Nat) (v1 : Int32) (v2 : Int32) (v3 : Int32) (v4 : Int32) (M : Mem) (q : Mem), self v0 v1 v2 v3 v4 M = some q → ExM G X.2.1 (d - 1) 0 0 yM_goWays cM_goWays 10 none [.ref v0, .int v1, .int v2, .int v3, .int v4] M none q) {v0 : Nat} {v1 : Int32} {v2 : Int32} {v3 : Int32} {v4 : Int32} {v5 : Int32} {K : Nat → Int32 → Int32 → Int32 → Int32 → Int32 → Int32 → Mem → Option ((Mem))} {q : (Mem)} (hK : ∀ (v6 : Int32) (M : Mem), K v0 v1 v2 v3 v4 v5 v6 M = some q → ZM G X 45 [(0, .ref v0), (1, .int v1), (2, .int v2), (3, .int v3), (4, .int v4), (5, .int v5), (6, .int v6)] [] M 0 0) (hr : ∀ r : Mem, q =  r → EnM G X none none r 0 0) {v6 : Int32} {v7 : Int32} {v8 : Int32} {v9 : Int32} {w0 : Nat} {w1 : Int32} {w2 : Int32} {w3 : Int32} {w4 : Int32} {M : Mem} (h : BM_goWays_158 self K v0 v1 v2 v3 v4 v5 v6 v7 v8 v9 w0 w1 w2 w3 w4 M = some q) : ZM G X 158 [(0, .ref v0), (1, .int v1), (2, .int v2), (3, .int v3), (4, .int v4), (5, .int v5), (6, .int v6), (7, .int v7), (8, .int v8), (9, .int v9)] [.int w4, .int w3, .int w2, .int w1, .ref w0] M 0 0 := by
  unfold BM_goWays_158 at h
  obtain ⟨h2, h⟩ := gdN h
  obtain ⟨q1, hq1, h⟩ := bindN h
  refine zz_callV0 (As := [.int w1, .int w2, .int w3, .int w4]) C ddM_goWays_158 wd_1710 my_M_goWays mv_M_goWays ⟨_, rfl, rfl⟩ (hS _ _ _ _ _ _ _ hq1) (by omega) h2 rfl rfl (Nat.le_of_ble_eq_true rfl) ?_
  refine zz_aload_n C 0 ddM_goWays_161 rfl rfl ?_
  refine zz_iload C 5 ddM_goWays_162 rfl ?_
  obtain ⟨h4, h⟩ := gdN h
  obtain ⟨q3, hq3, h⟩ := bindN h
  refine zz_callV0 (As := [.int v5]) C ddM_goWays_164 wd_1678 my_M_takeBack mv_M_takeBack ⟨_, rfl, rfl⟩ (xM_takeBack hG (d - 1) (by omega) hq3) (by omega) h4 rfl rfl (Nat.le_of_ble_eq_true rfl) ?_
  refine zz_iload C 9 ddM_goWays_167 rfl ?_
  refine zz_if_ne (tgt := 186) C ddM_goWays_169 rfl (fun hc => ?_) (fun hc => ?_)
  · replace h := iteF h hc
    refine zz_iload C 9 ddM_goWays_186 rfl ?_
    refine zz_iconst (v := 1) C ddM_goWays_188 (by decide) ?_
    refine zz_icmp_ne (tgt := 213) C ddM_goWays_189 rfl (fun hc => ?_) (fun hc => ?_)
    · replace h := iteF h hc
      refine zz_loc (L1 := [(0, .ref v0), (1, .int v1), (2, .int v2), (3, .int v3), (4, .int v4), (5, .int v5), (6, .int v6)]) [0, 1, 2, 3, 4, 5, 6] rfl ?_
      exact zBM_goWays_213 hG C N hD hd hS hK hr h
    · replace h := iteT h hc
      refine zz_aload_n C 0 ddM_goWays_192 rfl rfl ?_
      obtain ⟨h5, h⟩ := gdN h
      obtain ⟨h6, h⟩ := gdN h
      refine zz_getr C ddM_goWays_193 fl_M_46 rfl h5 (of_decide_eq_true h6) ?_
      refine zz_bipush (v := 24) C ddM_goWays_196 (by decide) ?_
      refine zz_iload C 6 ddM_goWays_198 rfl ?_
      refine zz_imul C ddM_goWays_200 ?_
      refine zz_aload_n C 0 ddM_goWays_201 rfl rfl ?_
      refine zz_iload C 7 ddM_goWays_202 rfl ?_
      refine zz_iload C 8 ddM_goWays_204 rfl ?_
      refine zz_iconst (v := 2) C ddM_goWays_206 (by decide) ?_
      obtain ⟨q7, hq7, h⟩ := bindN h
      refine zz_callV0 (As := [.int v7, .int v8, .int 2]) C ddM_goWays_207 wd_1599 my_M_stepOf mv_M_stepOf ⟨_, rfl, rfl⟩ (xM_stepOf hG (d - 1) (by omega) hq7) (by omega) h5 rfl rfl (Nat.le_of_ble_eq_true rfl) ?_
      refine zz_iadd C ddM_goWays_210 ?_
      refine zz_iconst (v := 1) C ddM_goWays_211 (by decide) ?_
      obtain ⟨h8, h⟩ := gdN h
      refine zz_bastore C ddM_goWays_212 h8 (by decide) ?_
      refine zz_loc (L1 := [(0, .ref v0), (1, .int v1), (2, .int v2), (3, .int v3), (4, .int v4), (5, .int v5), (6, .int v6)]) [0, 1, 2, 3, 4, 5, 6] rfl ?_
      exact zBM_goWays_213 hG C N hD hd hS hK hr h
  · replace h := iteT h hc
    refine zz_aload_n C 0 ddM_goWays_172 rfl rfl ?_
    obtain ⟨h9, h⟩ := gdN h
    obtain ⟨h10, h⟩ := gdN h
    refine zz_getr C ddM_goWays_173 fl_M_50 rfl h9 (of_decide_eq_true h10) ?_
    refine zz_iload C 6 ddM_goWays_176 rfl ?_
    refine zz_dup2 C ddM_goWays_178 rfl rfl ?_
    obtain ⟨h11, h⟩ := gdN h
    refine zz_iaload C ddM_goWays_179 h11 ?_
    refine zz_iconst (v := 1) C ddM_goWays_180 (by decide) ?_
    refine zz_isub C ddM_goWays_181 ?_
    obtain ⟨h12, h⟩ := gdN h
    refine zz_iastore C ddM_goWays_182 h12 ?_
    refine zz_goto (tgt := 213) C ddM_goWays_183 rfl ?_
    refine zz_loc (L1 := [(0, .ref v0), (1, .int v1), (2, .int v2), (3, .int v3), (4, .int v4), (5, .int v5), (6, .int v6)]) [0, 1, 2, 3, 4, 5, 6] rfl ?_
    exact zBM_goWays_213 hG C N hD hd hS hK hr h
set_option maxHeartbeats 2000000 in
theorem zBM_goWays_144 {self : Nat → Int32 → Int32 → Int32 → Int32 → Mem → Option (Mem)} {G : GXM} {X : CxM} (hG : GokM G) (C : CoM G X cM_goWays "HomeFreedModel") (N : mLM X = 10) {d : Nat} (hD : dpM X = d) (hd : 10 ≤ d) (hS : ∀ (v0 : Nat) (v1 : Int32) (v2 : Int32) (v3 : Int32) (v4 : Int32) (M : Mem) (q : Mem), self v0 v1 v2 v3 v4 M = some q → ExM G X.2.1 (d - 1) 0 0 yM_goWays cM_goWays 10 none [.ref v0, .int v1, .int v2, .int v3, .int v4] M none q) {v0 : Nat} {v1 : Int32} {v2 : Int32} {v3 : Int32} {v4 : Int32} {v5 : Int32} {K : Nat → Int32 → Int32 → Int32 → Int32 → Int32 → Int32 → Mem → Option ((Mem))} {q : (Mem)} (hK : ∀ (v6 : Int32) (M : Mem), K v0 v1 v2 v3 v4 v5 v6 M = some q → ZM G X 45 [(0, .ref v0), (1, .int v1), (2, .int v2), (3, .int v3), (4, .int v4), (5, .int v5), (6, .int v6)] [] M 0 0) (hr : ∀ r : Mem, q =  r → EnM G X none none r 0 0) {v6 : Int32} {v7 : Int32} {v8 : Int32} {v9 : Int32} {w0 : Nat} {w1 : Int32} {w2 : Int32} {w3 : Int32} {M : Mem} (h : BM_goWays_144 self K v0 v1 v2 v3 v4 v5 v6 v7 v8 v9 w0 w1 w2 w3 M = some q) : ZM G X 144 [(0, .ref v0), (1, .int v1), (2, .int v2), (3, .int v3), (4, .int v4), (5, .int v5), (6, .int v6), (7, .int v7), (8, .int v8), (9, .int v9)] [.int w3, .int w2, .int w1, .ref w0] M 0 0 := by
  unfold BM_goWays_144 at h
  refine zz_iload C 6 ddM_goWays_144 rfl ?_
  refine zz_if_ne (tgt := 154) C ddM_goWays_146 rfl (fun hc => ?_) (fun hc => ?_)
  · replace h := iteF h hc
    refine zz_iload C 4 ddM_goWays_154 rfl ?_
    refine zz_iconst (v := 1) C ddM_goWays_156 (by decide) ?_
    refine zz_iadd C ddM_goWays_157 ?_
    exact zBM_goWays_158 hG C N hD hd hS hK hr h
  · replace h := iteT h hc
    refine zz_iload C 4 ddM_goWays_149 rfl ?_
    refine zz_goto (tgt := 158) C ddM_goWays_151 rfl ?_
    exact zBM_goWays_158 hG C N hD hd hS hK hr h
set_option maxHeartbeats 2000000 in
theorem zBM_goWays_74 {self : Nat → Int32 → Int32 → Int32 → Int32 → Mem → Option (Mem)} {G : GXM} {X : CxM} (hG : GokM G) (C : CoM G X cM_goWays "HomeFreedModel") (N : mLM X = 10) {d : Nat} (hD : dpM X = d) (hd : 10 ≤ d) (hS : ∀ (v0 : Nat) (v1 : Int32) (v2 : Int32) (v3 : Int32) (v4 : Int32) (M : Mem) (q : Mem), self v0 v1 v2 v3 v4 M = some q → ExM G X.2.1 (d - 1) 0 0 yM_goWays cM_goWays 10 none [.ref v0, .int v1, .int v2, .int v3, .int v4] M none q) {v0 : Nat} {v1 : Int32} {v2 : Int32} {v3 : Int32} {v4 : Int32} {v5 : Int32} {K : Nat → Int32 → Int32 → Int32 → Int32 → Int32 → Int32 → Mem → Option ((Mem))} {q : (Mem)} (hK : ∀ (v6 : Int32) (M : Mem), K v0 v1 v2 v3 v4 v5 v6 M = some q → ZM G X 45 [(0, .ref v0), (1, .int v1), (2, .int v2), (3, .int v3), (4, .int v4), (5, .int v5), (6, .int v6)] [] M 0 0) (hr : ∀ r : Mem, q =  r → EnM G X none none r 0 0) {v6 : Int32} {v7 : Int32} {w0 : Int32} {M : Mem} (h : BM_goWays_74 self K v0 v1 v2 v3 v4 v5 v6 v7 w0 M = some q) : ZM G X 74 [(0, .ref v0), (1, .int v1), (2, .int v2), (3, .int v3), (4, .int v4), (5, .int v5), (6, .int v6), (7, .int v7)] [.int w0] M 0 0 := by
  unfold BM_goWays_74 at h
  refine zz_istore (L1 := [(8, .int w0), (0, .ref v0), (1, .int v1), (2, .int v2), (3, .int v3), (4, .int v4), (5, .int v5), (6, .int v6), (7, .int v7)]) C ddM_goWays_74 N (by decide) rfl ?_
  refine zz_iload C 0 ddM_goWays_76 rfl ?_
  refine zz_aload_n C 1 ddM_goWays_78 rfl rfl ?_
  obtain ⟨h1, h⟩ := gdN h
  obtain ⟨h2, h⟩ := gdN h
  refine zz_getr C ddM_goWays_79 fl_M_28 rfl h1 (of_decide_eq_true h2) ?_
  refine zz_iload C 8 ddM_goWays_82 rfl ?_
  obtain ⟨h3, h⟩ := gdN h
  refine zz_iaload C ddM_goWays_84 h3 ?_
  refine zz_icmp_ge (tgt := 220) C ddM_goWays_85 rfl (fun hc => ?_) (fun hc => ?_)
  · replace h := iteT h hc
    refine zz_loc (L1 := [(0, .ref v0), (1, .int v1), (2, .int v2), (3, .int v3), (4, .int v4), (5, .int v5), (6, .int v6)]) [1, 2, 3, 4, 5, 6, 7] rfl ?_
    exact zBM_goWays_220 hG C N hD hd hS hK hr h
  · replace h := iteF h hc
    refine zz_aload_n C 1 ddM_goWays_88 rfl rfl ?_
    refine zz_iload C 8 ddM_goWays_89 rfl ?_
    refine zz_iload C 0 ddM_goWays_91 rfl ?_
    refine zz_iload C 7 ddM_goWays_93 rfl ?_
    obtain ⟨q4, hq4, h⟩ := bindN h
    refine zz_callV0 (As := [.int v7, .int w0, .int v6]) C ddM_goWays_95 wd_1595 my_M_canStep mv_M_canStep ⟨_, rfl, rfl⟩ (xM_canStep hG (d - 1) (by omega) hq4) (by omega) h1 rfl rfl (Nat.le_of_ble_eq_true rfl) ?_
    refine zz_if_eq (tgt := 216) C ddM_goWays_98 rfl (fun hc => ?_) (fun hc => ?_)
    · replace h := iteT h hc
      refine zz_aload_n C 1 ddM_goWays_216 rfl rfl ?_
      obtain ⟨h6, h⟩ := gdN h
      obtain ⟨q5, hq5, h⟩ := bindN h
      refine zz_callV0 (As := []) C ddM_goWays_217 wd_1714 my_M_endWay mv_M_endWay ⟨_, rfl, rfl⟩ (xM_endWay hG (d - 1) (by omega) hq5) (by omega) h6 rfl rfl (Nat.le_of_ble_eq_true rfl) ?_
      refine zz_loc (L1 := [(0, .ref v0), (1, .int v1), (2, .int v2), (3, .int v3), (4, .int v4), (5, .int v5), (6, .int v6)]) [1, 2, 3, 4, 5, 6, 7] rfl ?_
      exact zBM_goWays_220 hG C N hD hd hS hK hr h
    · replace h := iteF h hc
      refine zz_aload_n C 1 ddM_goWays_101 rfl rfl ?_
      refine zz_iload C 6 ddM_goWays_102 rfl ?_
      obtain ⟨h8, h⟩ := gdN h
      obtain ⟨q7, hq7, h⟩ := bindN h
      refine zz_callV0 (As := [.int v5]) C ddM_goWays_104 wd_1674 my_M_putAside mv_M_putAside ⟨_, rfl, rfl⟩ (xM_putAside hG (d - 1) (by omega) hq7) (by omega) h8 rfl rfl (Nat.le_of_ble_eq_true rfl) ?_
      refine zz_aload_n C 1 ddM_goWays_107 rfl rfl ?_
      refine zz_iload C 8 ddM_goWays_108 rfl ?_
      refine zz_iload C 0 ddM_goWays_110 rfl ?_
      refine zz_iconst (v := 0) C ddM_goWays_112 (by decide) ?_
      obtain ⟨h10, h⟩ := gdN h
      obtain ⟨q9, hq9, h⟩ := bindN h
      refine zz_callV0 (As := [.int v7, .int w0, .int 0]) C ddM_goWays_113 wd_1599 my_M_stepOf mv_M_stepOf ⟨_, rfl, rfl⟩ (xM_stepOf hG (d - 1) (by omega) hq9) (by omega) h10 rfl rfl (Nat.le_of_ble_eq_true rfl) ?_
      refine zz_istore (L1 := [(9, .int q9.1), (8, .int w0), (0, .ref v0), (1, .int v1), (2, .int v2), (3, .int v3), (4, .int v4), (5, .int v5), (6, .int v6), (7, .int v7)]) C ddM_goWays_116 N (by decide) rfl ?_
      refine zz_aload_n C 2 ddM_goWays_118 rfl rfl ?_
      refine zz_iload C 9 ddM_goWays_119 rfl ?_
      refine zz_iload C 1 ddM_goWays_121 rfl ?_
      refine zz_iload C 8 ddM_goWays_123 rfl ?_
      refine zz_iconst (v := 0) C ddM_goWays_125 (by decide) ?_
      obtain ⟨h12, h⟩ := gdN h
      obtain ⟨q11, hq11, h⟩ := bindN h
      refine zz_callV0 (As := [.int v7, .int w0, .int v6, .int 0]) C ddM_goWays_126 wd_1603 my_M_doStep mv_M_doStep ⟨_, rfl, rfl⟩ (xM_doStep hG (d - 1) (by omega) hq11) (by omega) h12 rfl rfl (Nat.le_of_ble_eq_true rfl) ?_
      refine zz_aload_n C 2 ddM_goWays_129 rfl rfl ?_
      refine zz_iload_n C 3 ddM_goWays_130 rfl rfl ?_
      refine zz_iload_n C 4 ddM_goWays_131 rfl rfl ?_
      refine zz_iload C 8 ddM_goWays_132 rfl ?_
      refine zz_if_ne (tgt := 143) C ddM_goWays_134 rfl (fun hc => ?_) (fun hc => ?_)
      · replace h := iteF h hc
        refine zz_iload_n C 5 ddM_goWays_143 rfl rfl ?_
        refine zz_loc (L1 := [(0, .ref v0), (1, .int v1), (2, .int v2), (3, .int v3), (4, .int v4), (5, .int v5), (6, .int v6), (7, .int v7), (8, .int w0), (9, .int q9.1)]) [2, 3, 4, 5, 6, 7, 8, 9, 1, 0] rfl ?_
        exact zBM_goWays_144 hG C N hD hd hS hK hr h
      · replace h := iteT h hc
        refine zz_iload_n C 5 ddM_goWays_137 rfl rfl ?_
        refine zz_iconst (v := 1) C ddM_goWays_138 (by decide) ?_
        refine zz_iadd C ddM_goWays_139 ?_
        refine zz_goto (tgt := 144) C ddM_goWays_140 rfl ?_
        refine zz_loc (L1 := [(0, .ref v0), (1, .int v1), (2, .int v2), (3, .int v3), (4, .int v4), (5, .int v5), (6, .int v6), (7, .int v7), (8, .int w0), (9, .int q9.1)]) [2, 3, 4, 5, 6, 7, 8, 9, 1, 0] rfl ?_
        exact zBM_goWays_144 hG C N hD hd hS hK hr h
set_option maxHeartbeats 2000000 in
theorem zBM_goWays_61 {self : Nat → Int32 → Int32 → Int32 → Int32 → Mem → Option (Mem)} {G : GXM} {X : CxM} (hG : GokM G) (C : CoM G X cM_goWays "HomeFreedModel") (N : mLM X = 10) {d : Nat} (hD : dpM X = d) (hd : 10 ≤ d) (hS : ∀ (v0 : Nat) (v1 : Int32) (v2 : Int32) (v3 : Int32) (v4 : Int32) (M : Mem) (q : Mem), self v0 v1 v2 v3 v4 M = some q → ExM G X.2.1 (d - 1) 0 0 yM_goWays cM_goWays 10 none [.ref v0, .int v1, .int v2, .int v3, .int v4] M none q) {v0 : Nat} {v1 : Int32} {v2 : Int32} {v3 : Int32} {v4 : Int32} {v5 : Int32} {K : Nat → Int32 → Int32 → Int32 → Int32 → Int32 → Int32 → Mem → Option ((Mem))} {q : (Mem)} (hK : ∀ (v6 : Int32) (M : Mem), K v0 v1 v2 v3 v4 v5 v6 M = some q → ZM G X 45 [(0, .ref v0), (1, .int v1), (2, .int v2), (3, .int v3), (4, .int v4), (5, .int v5), (6, .int v6)] [] M 0 0) (hr : ∀ r : Mem, q =  r → EnM G X none none r 0 0) {v6 : Int32} {w0 : Int32} {M : Mem} (h : BM_goWays_61 self K v0 v1 v2 v3 v4 v5 v6 w0 M = some q) : ZM G X 61 [(0, .ref v0), (1, .int v1), (2, .int v2), (3, .int v3), (4, .int v4), (5, .int v5), (6, .int v6)] [.int w0] M 0 0 := by
  unfold BM_goWays_61 at h
  refine zz_istore (L1 := [(7, .int w0), (0, .ref v0), (1, .int v1), (2, .int v2), (3, .int v3), (4, .int v4), (5, .int v5), (6, .int v6)]) C ddM_goWays_61 N (by decide) rfl ?_
  refine zz_iload C 7 ddM_goWays_63 rfl ?_
  refine zz_if_ne (tgt := 72) C ddM_goWays_65 rfl (fun hc => ?_) (fun hc => ?_)
  · replace h := iteF h hc
    refine zz_iload C 5 ddM_goWays_72 rfl ?_
    refine zz_loc (L1 := [(0, .ref v0), (1, .int v1), (2, .int v2), (3, .int v3), (4, .int v4), (5, .int v5), (6, .int v6), (7, .int w0)]) [1, 2, 3, 4, 5, 6, 7, 0] rfl ?_
    exact zBM_goWays_74 hG C N hD hd hS hK hr h
  · replace h := iteT h hc
    refine zz_iload_n C 4 ddM_goWays_68 rfl rfl ?_
    refine zz_goto (tgt := 74) C ddM_goWays_69 rfl ?_
    refine zz_loc (L1 := [(0, .ref v0), (1, .int v1), (2, .int v2), (3, .int v3), (4, .int v4), (5, .int v5), (6, .int v6), (7, .int w0)]) [1, 2, 3, 4, 5, 6, 7, 0] rfl ?_
    exact zBM_goWays_74 hG C N hD hd hS hK hr h
set_option maxHeartbeats 2000000 in
theorem zBM_goWays_45 {self : Nat → Int32 → Int32 → Int32 → Int32 → Mem → Option (Mem)} {G : GXM} {X : CxM} (hG : GokM G) (C : CoM G X cM_goWays "HomeFreedModel") (N : mLM X = 10) {d : Nat} (hD : dpM X = d) (hd : 10 ≤ d) (hS : ∀ (v0 : Nat) (v1 : Int32) (v2 : Int32) (v3 : Int32) (v4 : Int32) (M : Mem) (q : Mem), self v0 v1 v2 v3 v4 M = some q → ExM G X.2.1 (d - 1) 0 0 yM_goWays cM_goWays 10 none [.ref v0, .int v1, .int v2, .int v3, .int v4] M none q) {v0 : Nat} {v1 : Int32} {v2 : Int32} {v3 : Int32} {v4 : Int32} {v5 : Int32} {K : Nat → Int32 → Int32 → Int32 → Int32 → Int32 → Int32 → Mem → Option ((Mem))} {q : (Mem)} (hK : ∀ (v6 : Int32) (M : Mem), K v0 v1 v2 v3 v4 v5 v6 M = some q → ZM G X 45 [(0, .ref v0), (1, .int v1), (2, .int v2), (3, .int v3), (4, .int v4), (5, .int v5), (6, .int v6)] [] M 0 0) (hr : ∀ r : Mem, q =  r → EnM G X none none r 0 0) {v6 : Int32} {M : Mem} (h : BM_goWays_45 self K v0 v1 v2 v3 v4 v5 v6 M = some q) : ZM G X 45 [(0, .ref v0), (1, .int v1), (2, .int v2), (3, .int v3), (4, .int v4), (5, .int v5), (6, .int v6)] [] M 0 0 := by
  unfold BM_goWays_45 at h
  refine zz_iload C 6 ddM_goWays_45 rfl ?_
  refine zz_iconst (v := 2) C ddM_goWays_47 (by decide) ?_
  refine zz_icmp_ge (tgt := 226) C ddM_goWays_48 rfl (fun hc => ?_) (fun hc => ?_)
  · replace h := iteT h hc
    exact zz_vret C (hr _ (Option.some.inj h).symm) ddM_goWays_226
  · replace h := iteF h hc
    refine zz_iload C 6 ddM_goWays_51 rfl ?_
    refine zz_if_ne (tgt := 60) C ddM_goWays_53 rfl (fun hc => ?_) (fun hc => ?_)
    · replace h := iteF h hc
      refine zz_iload_n C 2 ddM_goWays_60 rfl rfl ?_
      exact zBM_goWays_61 hG C N hD hd hS hK hr h
    · replace h := iteT h hc
      refine zz_iload_n C 1 ddM_goWays_56 rfl rfl ?_
      refine zz_goto (tgt := 61) C ddM_goWays_57 rfl ?_
      exact zBM_goWays_61 hG C N hD hd hS hK hr h
set_option maxHeartbeats 2000000 in
theorem zLM_goWays_45 {self : Nat → Int32 → Int32 → Int32 → Int32 → Mem → Option (Mem)} {G : GXM} {X : CxM} (hG : GokM G) (C : CoM G X cM_goWays "HomeFreedModel") (N : mLM X = 10) {d : Nat} (hD : dpM X = d) (hd : 10 ≤ d) (hS : ∀ (v0 : Nat) (v1 : Int32) (v2 : Int32) (v3 : Int32) (v4 : Int32) (M : Mem) (q : Mem), self v0 v1 v2 v3 v4 M = some q → ExM G X.2.1 (d - 1) 0 0 yM_goWays cM_goWays 10 none [.ref v0, .int v1, .int v2, .int v3, .int v4] M none q) {v0 : Nat} {v1 : Int32} {v2 : Int32} {v3 : Int32} {v4 : Int32} {v5 : Int32} {q : (Mem)} : ∀ (f : Nat) (v6 : Int32) (M : Mem), LM_goWays_45 self f v0 v1 v2 v3 v4 v5 v6 M = some q → (hr : ∀ r : Mem, q =  r → EnM G X none none r 0 0) → ZM G X 45 [(0, .ref v0), (1, .int v1), (2, .int v2), (3, .int v3), (4, .int v4), (5, .int v5), (6, .int v6)] [] M 0 0 := by
  intro f
  induction f with
  | zero => intro v6 M h; cases h
  | succ f ih =>
    intro v6 M h hr
    exact zBM_goWays_45 hG C N hD hd hS (K := LM_goWays_45 self f) (q := q) (fun v6 M h => ih v6 M h hr) hr h
set_option maxHeartbeats 2000000 in
theorem zBM_goWays_36 {self : Nat → Int32 → Int32 → Int32 → Int32 → Mem → Option (Mem)} {G : GXM} {X : CxM} (hG : GokM G) (C : CoM G X cM_goWays "HomeFreedModel") (N : mLM X = 10) {d : Nat} (hD : dpM X = d) (hd : 10 ≤ d) (hS : ∀ (v0 : Nat) (v1 : Int32) (v2 : Int32) (v3 : Int32) (v4 : Int32) (M : Mem) (q : Mem), self v0 v1 v2 v3 v4 M = some q → ExM G X.2.1 (d - 1) 0 0 yM_goWays cM_goWays 10 none [.ref v0, .int v1, .int v2, .int v3, .int v4] M none q)  {q : Mem} (E : EnM G X none none q 0 0) {v0 : Nat} {v1 : Int32} {v2 : Int32} {v3 : Int32} {v4 : Int32} {M : Mem} (h : BM_goWays_36 self v0 v1 v2 v3 v4 M = some q) : ZM G X 36 [(0, .ref v0), (1, .int v1), (2, .int v2), (3, .int v3), (4, .int v4)] [] M 0 0 := by
  unfold BM_goWays_36 at h
  refine zz_iload_n C 3 ddM_goWays_36 rfl rfl ?_
  refine zz_iload C 4 ddM_goWays_37 rfl ?_
  refine zz_iadd C ddM_goWays_39 ?_
  refine zz_istore (L1 := [(5, .int (v3 + v4)), (0, .ref v0), (1, .int v1), (2, .int v2), (3, .int v3), (4, .int v4)]) C ddM_goWays_40 N (by decide) rfl ?_
  refine zz_iconst (v := 0) C ddM_goWays_42 (by decide) ?_
  refine zz_istore (L1 := [(6, .int 0), (5, .int (v3 + v4)), (0, .ref v0), (1, .int v1), (2, .int v2), (3, .int v3), (4, .int v4)]) C ddM_goWays_43 N (by decide) rfl ?_
  refine zz_loc (L1 := [(0, .ref v0), (1, .int v1), (2, .int v2), (3, .int v3), (4, .int v4), (5, .int (v3 + v4)), (6, .int 0)]) [2, 3, 4, 5, 6, 1, 0] rfl ?_
  obtain ⟨q1, hq1, h⟩ := bindN h
  refine zLM_goWays_45 hG C N hD hd hS 1000000 _ _ hq1 ?_
  · intro r2 eq1; subst eq1
    obtain rfl := Option.some.inj h
    exact E
set_option maxHeartbeats 2000000 in
theorem xM_goWays {G : GXM} {l : Launch} (hG : GokM G) : ∀ (f d : Nat) (hd : 10 + f ≤ d) (v0 : Nat) (v1 : Int32) (v2 : Int32) (v3 : Int32) (v4 : Int32) (M : Mem) (q : Mem) (h : fM_goWays f v0 v1 v2 v3 v4 M = some q), ExM G l d 0 0 yM_goWays cM_goWays 10 none [.ref v0, .int v1, .int v2, .int v3, .int v4] M none q := by
  intro f
  induction f with
  | zero => intro d hd v0 v1 v2 v3 v4 M q h; cases h
  | succ f ih =>
  intro d hd0 v0 v1 v2 v3 v4 M q h
  refine ex_of hG (by decide) (Nat.le_of_ble_eq_true rfl) ?_
  intro X hl C E N hD hn
  have hS := fun v0 v1 v2 v3 v4 M q h => hl ▸ ih (d - 1) (by omega) v0 v1 v2 v3 v4 M q h
  have hd : 10 ≤ d := by omega
  show ZM G X 0 [(0, .ref v0), (1, .int v1), (2, .int v2), (3, .int v3), (4, .int v4)] [] M 0 0
  have h : gM_goWays (fM_goWays f) v0 v1 v2 v3 v4 M = some q := h
  unfold gM_goWays at h
  refine zz_iload_n C 3 ddM_goWays_0 rfl rfl ?_
  refine zz_aload_n C 0 ddM_goWays_1 rfl rfl ?_
  obtain ⟨h1, h⟩ := gdN h
  obtain ⟨h2, h⟩ := gdN h
  refine zz_getr C ddM_goWays_2 fl_M_28 rfl h1 (of_decide_eq_true h2) ?_
  refine zz_iload_n C 1 ddM_goWays_5 rfl rfl ?_
  obtain ⟨h3, h⟩ := gdN h
  refine zz_iaload C ddM_goWays_6 h3 ?_
  refine zz_icmp_ne (tgt := 36) C ddM_goWays_7 rfl (fun hc => ?_) (fun hc => ?_)
  · replace h := iteF h hc
    exact zBM_goWays_36 hG C N hD hd hS E h
  · replace h := iteT h hc
    refine zz_iload C 4 ddM_goWays_10 rfl ?_
    refine zz_aload_n C 0 ddM_goWays_12 rfl rfl ?_
    refine zz_getr C ddM_goWays_13 fl_M_28 rfl h1 (of_decide_eq_true h2) ?_
    refine zz_iload_n C 2 ddM_goWays_16 rfl rfl ?_
    obtain ⟨h4, h⟩ := gdN h
    refine zz_iaload C ddM_goWays_17 h4 ?_
    refine zz_icmp_ne (tgt := 36) C ddM_goWays_18 rfl (fun hc => ?_) (fun hc => ?_)
    · replace h := iteF h hc
      exact zBM_goWays_36 hG C N hD hd hS E h
    · replace h := iteT h hc
      refine zz_aload_n C 0 ddM_goWays_21 rfl rfl ?_
      refine zz_dup C ddM_goWays_22 rfl ?_
      refine zz_geti C ddM_goWays_23 fl_M_377 rfl h1 ?_
      refine zz_iconst (v := 1) C ddM_goWays_26 (by decide) ?_
      refine zz_iadd C ddM_goWays_27 ?_
      refine zz_puti C ddM_goWays_28 fl_M_377 rfl rfl rfl h1 ?_
      refine zz_aload_n C 0 ddM_goWays_31 rfl rfl ?_
      obtain ⟨q5, hq5, h⟩ := bindN h
      refine zz_callV0 (As := []) C ddM_goWays_32 wd_1714 my_M_endWay mv_M_endWay ⟨_, rfl, rfl⟩ (xM_endWay hG (d - 1) (by omega) hq5) (by omega) h1 rfl rfl (Nat.le_of_ble_eq_true rfl) ?_
      obtain rfl := Option.some.inj h
      exact zz_vret C E ddM_goWays_35
