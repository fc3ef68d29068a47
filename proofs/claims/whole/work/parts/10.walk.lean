theorem ddT_signsIn_0 : decode cT_signsIn 0 = .ok (.iconst 0, 1) := by decide +kernel
theorem ddT_signsIn_1 : decode cT_signsIn 1 = .ok (.istore_n 2, 1) := by decide +kernel
theorem ddT_signsIn_2 : decode cT_signsIn 2 = .ok (.bipush 24, 2) := by decide +kernel
theorem ddT_signsIn_4 : decode cT_signsIn 4 = .ok (.istore_n 3, 1) := by decide +kernel
theorem ddT_signsIn_5 : decode cT_signsIn 5 = .ok (.iload_n 3, 1) := by decide +kernel
theorem ddT_signsIn_6 : decode cT_signsIn 6 = .ok (.ifCond .lt 27, 3) := by decide +kernel
theorem ddT_signsIn_9 : decode cT_signsIn 9 = .ok (.iload_n 2, 1) := by decide +kernel
theorem ddT_signsIn_10 : decode cT_signsIn 10 = .ok (.iload_n 1, 1) := by decide +kernel
theorem ddT_signsIn_11 : decode cT_signsIn 11 = .ok (.iload_n 3, 1) := by decide +kernel
theorem ddT_signsIn_12 : decode cT_signsIn 12 = .ok (.iushr, 1) := by decide +kernel
theorem ddT_signsIn_13 : decode cT_signsIn 13 = .ok (.sipush 255, 3) := by decide +kernel
theorem ddT_signsIn_16 : decode cT_signsIn 16 = .ok (.iand, 1) := by decide +kernel
theorem ddT_signsIn_17 : decode cT_signsIn 17 = .ok (.ifCond .eq 7, 3) := by decide +kernel
theorem ddT_signsIn_20 : decode cT_signsIn 20 = .ok (.iconst 1, 1) := by decide +kernel
theorem ddT_signsIn_21 : decode cT_signsIn 21 = .ok (.goto 4, 3) := by decide +kernel
theorem ddT_signsIn_24 : decode cT_signsIn 24 = .ok (.iconst 0, 1) := by decide +kernel
theorem ddT_signsIn_25 : decode cT_signsIn 25 = .ok (.iadd, 1) := by decide +kernel
theorem ddT_signsIn_26 : decode cT_signsIn 26 = .ok (.istore_n 2, 1) := by decide +kernel
theorem ddT_signsIn_27 : decode cT_signsIn 27 = .ok (.iinc 3 (-8), 3) := by decide +kernel
theorem ddT_signsIn_30 : decode cT_signsIn 30 = .ok (.goto (-25), 3) := by decide +kernel
theorem ddT_signsIn_33 : decode cT_signsIn 33 = .ok (.iload_n 2, 1) := by decide +kernel
theorem ddT_signsIn_34 : decode cT_signsIn 34 = .ok (.ireturn, 1) := by decide +kernel
set_option maxHeartbeats 2000000 in
theorem zBT_signsIn_25 {G : GXM} {X : CxM} (hG : GokM G) (C : CoM G X cT_signsIn "HomeFreed$Tape") (N : mLM X = 4) {d : Nat} (hD : dpM X = d) (hd : 0 ≤ d) {v1 : Int32} {K : Int32 → Int32 → Int32 → Mem → Option ((Int32 × Mem))} {q : (Int32 × Mem)} (hK : ∀ (v2 : Int32) (v3 : Int32) (M : Mem), K v1 v2 v3 M = some q → ZM G X 5 [(1, .int v1), (2, .int v2), (3, .int v3)] [] M 0 0) (hr : ∀ r : Int32 × Mem, q =  r → EnM G X (some .int) (some (.int r.1)) r.2 0 0) {v3 : Int32} {w0 : Int32} {w1 : Int32} {M : Mem} (h : BT_signsIn_25 K v1 v3 w0 w1 M = some q) : ZM G X 25 [(1, .int v1), (3, .int v3)] [.int w1, .int w0] M 0 0 := by
  unfold BT_signsIn_25 at h
  refine zz_iadd C ddT_signsIn_25 ?_
  refine zz_istore_n (L1 := [(2, .int (w0 + w1)), (1, .int v1), (3, .int v3)]) C ddT_signsIn_26 rfl N (by decide) rfl ?_
  refine zz_iinc (v := v3 + (-8)) (L1 := [(3, .int (v3 + (-8))), (2, .int (w0 + w1)), (1, .int v1)]) C 2 ddT_signsIn_27 rfl rfl N (by decide) rfl ?_
  refine zz_goto (tgt := 5) C ddT_signsIn_30 rfl ?_
  refine zz_loc (L1 := [(1, .int v1), (2, .int (w0 + w1)), (3, .int (v3 + (-8)))]) [2, 1, 0] rfl ?_
  exact hK _ _ _ h
set_option maxHeartbeats 2000000 in
theorem zBT_signsIn_5 {G : GXM} {X : CxM} (hG : GokM G) (C : CoM G X cT_signsIn "HomeFreed$Tape") (N : mLM X = 4) {d : Nat} (hD : dpM X = d) (hd : 0 ≤ d) {v1 : Int32} {K : Int32 → Int32 → Int32 → Mem → Option ((Int32 × Mem))} {q : (Int32 × Mem)} (hK : ∀ (v2 : Int32) (v3 : Int32) (M : Mem), K v1 v2 v3 M = some q → ZM G X 5 [(1, .int v1), (2, .int v2), (3, .int v3)] [] M 0 0) (hr : ∀ r : Int32 × Mem, q =  r → EnM G X (some .int) (some (.int r.1)) r.2 0 0) {v2 : Int32} {v3 : Int32} {M : Mem} (h : BT_signsIn_5 K v1 v2 v3 M = some q) : ZM G X 5 [(1, .int v1), (2, .int v2), (3, .int v3)] [] M 0 0 := by
  unfold BT_signsIn_5 at h
  refine zz_iload_n C 2 ddT_signsIn_5 rfl rfl ?_
  refine zz_if_lt (tgt := 33) C ddT_signsIn_6 rfl (fun hc => ?_) (fun hc => ?_)
  · replace h := iteT h hc
    refine zz_iload_n C 1 ddT_signsIn_33 rfl rfl ?_
    exact zz_iret C (hr _ (Option.some.inj h).symm) ddT_signsIn_34
  · replace h := iteF h hc
    refine zz_iload_n C 1 ddT_signsIn_9 rfl rfl ?_
    refine zz_iload_n C 0 ddT_signsIn_10 rfl rfl ?_
    refine zz_iload_n C 2 ddT_signsIn_11 rfl rfl ?_
    refine zz_iushr C ddT_signsIn_12 ?_
    refine zz_sipush (v := 255) C ddT_signsIn_13 (by decide) ?_
    refine zz_iand C ddT_signsIn_16 ?_
    refine zz_if_eq (tgt := 24) C ddT_signsIn_17 rfl (fun hc => ?_) (fun hc => ?_)
    · replace h := iteT h hc
      refine zz_iconst (v := 0) C ddT_signsIn_24 (by decide) ?_
      refine zz_loc (L1 := [(1, .int v1), (3, .int v3)]) [0, 2] rfl ?_
      exact zBT_signsIn_25 hG C N hD hd hK hr h
    · replace h := iteF h hc
      refine zz_iconst (v := 1) C ddT_signsIn_20 (by decide) ?_
      refine zz_goto (tgt := 25) C ddT_signsIn_21 rfl ?_
      refine zz_loc (L1 := [(1, .int v1), (3, .int v3)]) [0, 2] rfl ?_
      exact zBT_signsIn_25 hG C N hD hd hK hr h
set_option maxHeartbeats 2000000 in
theorem zLT_signsIn_5 {G : GXM} {X : CxM} (hG : GokM G) (C : CoM G X cT_signsIn "HomeFreed$Tape") (N : mLM X = 4) {d : Nat} (hD : dpM X = d) (hd : 0 ≤ d) {v1 : Int32} {q : (Int32 × Mem)} : ∀ (f : Nat) (v2 : Int32) (v3 : Int32) (M : Mem), LT_signsIn_5 f v1 v2 v3 M = some q → (hr : ∀ r : Int32 × Mem, q =  r → EnM G X (some .int) (some (.int r.1)) r.2 0 0) → ZM G X 5 [(1, .int v1), (2, .int v2), (3, .int v3)] [] M 0 0 := by
  intro f
  induction f with
  | zero => intro v2 v3 M h; cases h
  | succ f ih =>
    intro v2 v3 M h hr
    exact zBT_signsIn_5 hG C N hD hd (K := LT_signsIn_5 f) (q := q) (fun v2 v3 M h => ih v2 v3 M h hr) hr h
set_option maxHeartbeats 2000000 in
theorem xT_signsIn {G : GXM} {l : Launch} (hG : GokM G) (d : Nat) (hd : 0 ≤ d) {v0 : Nat} {v1 : Int32} {M : Mem} {q : Int32 × Mem} (h : fT_signsIn v0 v1 M = some q) : ExM G l d 0 0 yT_signsIn cT_signsIn 4 (some .int) [.ref v0, .int v1] M (some (.int q.1)) q.2 := by
  refine ex_of hG (by decide +kernel) (Nat.le_of_ble_eq_true rfl) ?_
  intro X hl C E N hD hn
  show ZM G X 0 [(0, .ref v0), (1, .int v1)] [] M 0 0
  unfold fT_signsIn at h
  refine zz_iconst (v := 0) C ddT_signsIn_0 (by decide) ?_
  refine zz_istore_n (L1 := [(2, .int 0), (0, .ref v0), (1, .int v1)]) C ddT_signsIn_1 rfl N (by decide) rfl ?_
  refine zz_bipush (v := 24) C ddT_signsIn_2 (by decide) ?_
  refine zz_istore_n (L1 := [(3, .int 24), (2, .int 0), (0, .ref v0), (1, .int v1)]) C ddT_signsIn_4 rfl N (by decide) rfl ?_
  refine zz_loc (L1 := [(1, .int v1), (2, .int 0), (3, .int 24)]) [3, 1, 0] rfl ?_
  obtain ⟨q1, hq1, h⟩ := bindN h
  refine zLT_signsIn_5 hG C N hD hd 1000000 _ _ _ hq1 ?_
  · intro r2 eq1; subst eq1
    obtain rfl := Option.some.inj h
    exact E
theorem ddT_append_0 : decode cT_append 0 = .ok (.bipush 24, 2) := by decide +kernel
theorem ddT_append_2 : decode cT_append 2 = .ok (.istore_n 2, 1) := by decide +kernel
theorem ddT_append_3 : decode cT_append 3 = .ok (.iload_n 2, 1) := by decide +kernel
theorem ddT_append_4 : decode cT_append 4 = .ok (.ifCond .lt 53, 3) := by decide +kernel
theorem ddT_append_7 : decode cT_append 7 = .ok (.iload_n 1, 1) := by decide +kernel
theorem ddT_append_8 : decode cT_append 8 = .ok (.iload_n 2, 1) := by decide +kernel
theorem ddT_append_9 : decode cT_append 9 = .ok (.iushr, 1) := by decide +kernel
theorem ddT_append_10 : decode cT_append 10 = .ok (.sipush 255, 3) := by decide +kernel
theorem ddT_append_13 : decode cT_append 13 = .ok (.iand, 1) := by decide +kernel
theorem ddT_append_14 : decode cT_append 14 = .ok (.istore_n 3, 1) := by decide +kernel
theorem ddT_append_15 : decode cT_append 15 = .ok (.iload_n 3, 1) := by decide +kernel
theorem ddT_append_16 : decode cT_append 16 = .ok (.ifCond .eq 35, 3) := by decide +kernel
theorem ddT_append_19 : decode cT_append 19 = .ok (.aload_n 0, 1) := by decide +kernel
theorem ddT_append_20 : decode cT_append 20 = .ok (.getfield 15, 3) := by decide +kernel
theorem ddT_append_23 : decode cT_append 23 = .ok (.aload_n 0, 1) := by decide +kernel
theorem ddT_append_24 : decode cT_append 24 = .ok (.getfield 9, 3) := by decide +kernel
theorem ddT_append_27 : decode cT_append 27 = .ok (.arraylength, 1) := by decide +kernel
theorem ddT_append_28 : decode cT_append 28 = .ok (.if_icmp .ge 23, 3) := by decide +kernel
theorem ddT_append_31 : decode cT_append 31 = .ok (.aload_n 0, 1) := by decide +kernel
theorem ddT_append_32 : decode cT_append 32 = .ok (.getfield 9, 3) := by decide +kernel
theorem ddT_append_35 : decode cT_append 35 = .ok (.aload_n 0, 1) := by decide +kernel
theorem ddT_append_36 : decode cT_append 36 = .ok (.getfield 15, 3) := by decide +kernel
theorem ddT_append_39 : decode cT_append 39 = .ok (.iload_n 3, 1) := by decide +kernel
theorem ddT_append_40 : decode cT_append 40 = .ok (.iastore, 1) := by decide +kernel
theorem ddT_append_41 : decode cT_append 41 = .ok (.aload_n 0, 1) := by decide +kernel
theorem ddT_append_42 : decode cT_append 42 = .ok (.dup, 1) := by decide +kernel
theorem ddT_append_43 : decode cT_append 43 = .ok (.getfield 15, 3) := by decide +kernel
theorem ddT_append_46 : decode cT_append 46 = .ok (.iconst 1, 1) := by decide +kernel
theorem ddT_append_47 : decode cT_append 47 = .ok (.iadd, 1) := by decide +kernel
theorem ddT_append_48 : decode cT_append 48 = .ok (.putfield 15, 3) := by decide +kernel
theorem ddT_append_51 : decode cT_append 51 = .ok (.iinc 2 (-8), 3) := by decide +kernel
theorem ddT_append_54 : decode cT_append 54 = .ok (.goto (-51), 3) := by decide +kernel
theorem ddT_append_57 : decode cT_append 57 = .ok (.return_, 1) := by decide +kernel
set_option maxHeartbeats 2000000 in
theorem zBT_append_51 {G : GXM} {X : CxM} (hG : GokM G) (C : CoM G X cT_append "HomeFreed$Tape") (N : mLM X = 4) {d : Nat} (hD : dpM X = d) (hd : 0 ≤ d) {v0 : Nat} {v1 : Int32} {K : Nat → Int32 → Int32 → Mem → Option ((Mem))} {q : (Mem)} (hK : ∀ (v2 : Int32) (M : Mem), K v0 v1 v2 M = some q → ZM G X 3 [(0, .ref v0), (1, .int v1), (2, .int v2)] [] M 0 0) (hr : ∀ r : Mem, q =  r → EnM G X none none r 0 0) {v2 : Int32} {M : Mem} (h : BT_append_51 K v0 v1 v2 M = some q) : ZM G X 51 [(0, .ref v0), (1, .int v1), (2, .int v2)] [] M 0 0 := by
  unfold BT_append_51 at h
  refine zz_iinc (v := v2 + (-8)) (L1 := [(2, .int (v2 + (-8))), (0, .ref v0), (1, .int v1)]) C 2 ddT_append_51 rfl rfl N (by decide) rfl ?_
  refine zz_goto (tgt := 3) C ddT_append_54 rfl ?_
  refine zz_loc (L1 := [(0, .ref v0), (1, .int v1), (2, .int (v2 + (-8)))]) [1, 2, 0] rfl ?_
  exact hK _ _ h
set_option maxHeartbeats 2000000 in
theorem zBT_append_3 {G : GXM} {X : CxM} (hG : GokM G) (C : CoM G X cT_append "HomeFreed$Tape") (N : mLM X = 4) {d : Nat} (hD : dpM X = d) (hd : 0 ≤ d) {v0 : Nat} {v1 : Int32} {K : Nat → Int32 → Int32 → Mem → Option ((Mem))} {q : (Mem)} (hK : ∀ (v2 : Int32) (M : Mem), K v0 v1 v2 M = some q → ZM G X 3 [(0, .ref v0), (1, .int v1), (2, .int v2)] [] M 0 0) (hr : ∀ r : Mem, q =  r → EnM G X none none r 0 0) {v2 : Int32} {M : Mem} (h : BT_append_3 K v0 v1 v2 M = some q) : ZM G X 3 [(0, .ref v0), (1, .int v1), (2, .int v2)] [] M 0 0 := by
  unfold BT_append_3 at h
  refine zz_iload_n C 2 ddT_append_3 rfl rfl ?_
  refine zz_if_lt (tgt := 57) C ddT_append_4 rfl (fun hc => ?_) (fun hc => ?_)
  · replace h := iteT h hc
    exact zz_vret C (hr _ (Option.some.inj h).symm) ddT_append_57
  · replace h := iteF h hc
    refine zz_iload_n C 1 ddT_append_7 rfl rfl ?_
    refine zz_iload_n C 2 ddT_append_8 rfl rfl ?_
    refine zz_iushr C ddT_append_9 ?_
    refine zz_sipush (v := 255) C ddT_append_10 (by decide) ?_
    refine zz_iand C ddT_append_13 ?_
    refine zz_istore_n (L1 := [(3, .int (((Int32.toUInt32 v1 >>> (Int32.toUInt32 v2 &&& Int32.toUInt32 31)).toInt32) &&& 255)), (0, .ref v0), (1, .int v1), (2, .int v2)]) C ddT_append_14 rfl N (by decide) rfl ?_
    refine zz_iload_n C 0 ddT_append_15 rfl rfl ?_
    refine zz_if_eq (tgt := 51) C ddT_append_16 rfl (fun hc => ?_) (fun hc => ?_)
    · replace h := iteT h hc
      refine zz_loc (L1 := [(0, .ref v0), (1, .int v1), (2, .int v2)]) [1, 2, 3] rfl ?_
      exact zBT_append_51 hG C N hD hd hK hr h
    · replace h := iteF h hc
      refine zz_aload_n C 1 ddT_append_19 rfl rfl ?_
      obtain ⟨h1, h⟩ := gdN h
      refine zz_geti C ddT_append_20 fl_T_15 rfl h1 ?_
      refine zz_aload_n C 1 ddT_append_23 rfl rfl ?_
      obtain ⟨h2, h⟩ := gdN h
      refine zz_getr C ddT_append_24 fl_T_9 rfl h1 (of_decide_eq_true h2) ?_
      obtain ⟨h3, h⟩ := gdN h
      refine zz_alenI C ddT_append_27 h3 ?_
      refine zz_icmp_ge (tgt := 51) C ddT_append_28 rfl (fun hc => ?_) (fun hc => ?_)
      · replace h := iteT h hc
        refine zz_loc (L1 := [(0, .ref v0), (1, .int v1), (2, .int v2)]) [1, 2, 3] rfl ?_
        exact zBT_append_51 hG C N hD hd hK hr h
      · replace h := iteF h hc
        refine zz_aload_n C 1 ddT_append_31 rfl rfl ?_
        refine zz_getr C ddT_append_32 fl_T_9 rfl h1 (of_decide_eq_true h2) ?_
        refine zz_aload_n C 1 ddT_append_35 rfl rfl ?_
        refine zz_geti C ddT_append_36 fl_T_15 rfl h1 ?_
        refine zz_iload_n C 0 ddT_append_39 rfl rfl ?_
        obtain ⟨h4, h⟩ := gdN h
        refine zz_iastore C ddT_append_40 h4 ?_
        refine zz_aload_n C 1 ddT_append_41 rfl rfl ?_
        refine zz_dup C ddT_append_42 rfl ?_
        refine zz_geti C ddT_append_43 fl_T_15 rfl h1 ?_
        refine zz_iconst (v := 1) C ddT_append_46 (by decide) ?_
        refine zz_iadd C ddT_append_47 ?_
        refine zz_puti C ddT_append_48 fl_T_15 rfl rfl rfl h1 ?_
        refine zz_loc (L1 := [(0, .ref v0), (1, .int v1), (2, .int v2)]) [1, 2, 3] rfl ?_
        exact zBT_append_51 hG C N hD hd hK hr h
set_option maxHeartbeats 2000000 in
theorem zLT_append_3 {G : GXM} {X : CxM} (hG : GokM G) (C : CoM G X cT_append "HomeFreed$Tape") (N : mLM X = 4) {d : Nat} (hD : dpM X = d) (hd : 0 ≤ d) {v0 : Nat} {v1 : Int32} {q : (Mem)} : ∀ (f : Nat) (v2 : Int32) (M : Mem), LT_append_3 f v0 v1 v2 M = some q → (hr : ∀ r : Mem, q =  r → EnM G X none none r 0 0) → ZM G X 3 [(0, .ref v0), (1, .int v1), (2, .int v2)] [] M 0 0 := by
  intro f
  induction f with
  | zero => intro v2 M h; cases h
  | succ f ih =>
    intro v2 M h hr
    exact zBT_append_3 hG C N hD hd (K := LT_append_3 f) (q := q) (fun v2 M h => ih v2 M h hr) hr h
set_option maxHeartbeats 2000000 in
theorem xT_append {G : GXM} {l : Launch} (hG : GokM G) (d : Nat) (hd : 0 ≤ d) {v0 : Nat} {v1 : Int32} {M : Mem} {q : Mem} (h : fT_append v0 v1 M = some q) : ExM G l d 0 0 yT_append cT_append 4 none [.ref v0, .int v1] M none q := by
  refine ex_of hG (by decide +kernel) (Nat.le_of_ble_eq_true rfl) ?_
  intro X hl C E N hD hn
  show ZM G X 0 [(0, .ref v0), (1, .int v1)] [] M 0 0
  unfold fT_append at h
  refine zz_bipush (v := 24) C ddT_append_0 (by decide) ?_
  refine zz_istore_n (L1 := [(2, .int 24), (0, .ref v0), (1, .int v1)]) C ddT_append_2 rfl N (by decide) rfl ?_
  refine zz_loc (L1 := [(0, .ref v0), (1, .int v1), (2, .int 24)]) [1, 2, 0] rfl ?_
  obtain ⟨q1, hq1, h⟩ := bindN h
  refine zLT_append_3 hG C N hD hd 1000000 _ _ hq1 ?_
  · intro r2 eq1; subst eq1
    obtain rfl := Option.some.inj h
    exact E
theorem ddA_feed_0 : decode cA_feed 0 = .ok (.aload_n 0, 1) := by decide +kernel
theorem ddA_feed_1 : decode cA_feed 1 = .ok (.getfield 12, 3) := by decide +kernel
theorem ddA_feed_4 : decode cA_feed 4 = .ok (.iload_n 1, 1) := by decide +kernel
theorem ddA_feed_5 : decode cA_feed 5 = .ok (.invokevirtual 94, 3) := by decide +kernel
theorem ddA_feed_8 : decode cA_feed 8 = .ok (.aload_n 0, 1) := by decide +kernel
theorem ddA_feed_9 : decode cA_feed 9 = .ok (.getfield 12, 3) := by decide +kernel
theorem ddA_feed_12 : decode cA_feed 12 = .ok (.iload_n 2, 1) := by decide +kernel
theorem ddA_feed_13 : decode cA_feed 13 = .ok (.invokevirtual 94, 3) := by decide +kernel
theorem ddA_feed_16 : decode cA_feed 16 = .ok (.iadd, 1) := by decide +kernel
theorem ddA_feed_17 : decode cA_feed 17 = .ok (.aload_n 0, 1) := by decide +kernel
theorem ddA_feed_18 : decode cA_feed 18 = .ok (.getfield 12, 3) := by decide +kernel
theorem ddA_feed_21 : decode cA_feed 21 = .ok (.iload_n 3, 1) := by decide +kernel
theorem ddA_feed_22 : decode cA_feed 22 = .ok (.invokevirtual 94, 3) := by decide +kernel
theorem ddA_feed_25 : decode cA_feed 25 = .ok (.iadd, 1) := by decide +kernel
theorem ddA_feed_26 : decode cA_feed 26 = .ok (.aload_n 0, 1) := by decide +kernel
theorem ddA_feed_27 : decode cA_feed 27 = .ok (.getfield 12, 3) := by decide +kernel
theorem ddA_feed_30 : decode cA_feed 30 = .ok (.iload 4, 2) := by decide +kernel
theorem ddA_feed_32 : decode cA_feed 32 = .ok (.invokevirtual 94, 3) := by decide +kernel
theorem ddA_feed_35 : decode cA_feed 35 = .ok (.iadd, 1) := by decide +kernel
theorem ddA_feed_36 : decode cA_feed 36 = .ok (.aload_n 0, 1) := by decide +kernel
theorem ddA_feed_37 : decode cA_feed 37 = .ok (.getfield 12, 3) := by decide +kernel
theorem ddA_feed_40 : decode cA_feed 40 = .ok (.iload 5, 2) := by decide +kernel
theorem ddA_feed_42 : decode cA_feed 42 = .ok (.invokevirtual 94, 3) := by decide +kernel
theorem ddA_feed_45 : decode cA_feed 45 = .ok (.iadd, 1) := by decide +kernel
theorem ddA_feed_46 : decode cA_feed 46 = .ok (.istore 6, 2) := by decide +kernel
theorem ddA_feed_48 : decode cA_feed 48 = .ok (.aload_n 0, 1) := by decide +kernel
theorem ddA_feed_49 : decode cA_feed 49 = .ok (.getfield 12, 3) := by decide +kernel
theorem ddA_feed_52 : decode cA_feed 52 = .ok (.getfield 98, 3) := by decide +kernel
theorem ddA_feed_55 : decode cA_feed 55 = .ok (.iload 6, 2) := by decide +kernel
theorem ddA_feed_57 : decode cA_feed 57 = .ok (.iadd, 1) := by decide +kernel
theorem ddA_feed_58 : decode cA_feed 58 = .ok (.sipush 240, 3) := by decide +kernel
theorem ddA_feed_61 : decode cA_feed 61 = .ok (.if_icmp .le 5, 3) := by decide +kernel
theorem ddA_feed_64 : decode cA_feed 64 = .ok (.iconst (-1), 1) := by decide +kernel
theorem ddA_feed_65 : decode cA_feed 65 = .ok (.ireturn, 1) := by decide +kernel
theorem ddA_feed_66 : decode cA_feed 66 = .ok (.aload_n 0, 1) := by decide +kernel
theorem ddA_feed_67 : decode cA_feed 67 = .ok (.getfield 12, 3) := by decide +kernel
theorem ddA_feed_70 : decode cA_feed 70 = .ok (.iload_n 1, 1) := by decide +kernel
theorem ddA_feed_71 : decode cA_feed 71 = .ok (.invokevirtual 101, 3) := by decide +kernel
theorem ddA_feed_74 : decode cA_feed 74 = .ok (.aload_n 0, 1) := by decide +kernel
theorem ddA_feed_75 : decode cA_feed 75 = .ok (.getfield 12, 3) := by decide +kernel
theorem ddA_feed_78 : decode cA_feed 78 = .ok (.iload_n 2, 1) := by decide +kernel
theorem ddA_feed_79 : decode cA_feed 79 = .ok (.invokevirtual 101, 3) := by decide +kernel
theorem ddA_feed_82 : decode cA_feed 82 = .ok (.aload_n 0, 1) := by decide +kernel
theorem ddA_feed_83 : decode cA_feed 83 = .ok (.getfield 12, 3) := by decide +kernel
theorem ddA_feed_86 : decode cA_feed 86 = .ok (.iload_n 3, 1) := by decide +kernel
theorem ddA_feed_87 : decode cA_feed 87 = .ok (.invokevirtual 101, 3) := by decide +kernel
theorem ddA_feed_90 : decode cA_feed 90 = .ok (.aload_n 0, 1) := by decide +kernel
theorem ddA_feed_91 : decode cA_feed 91 = .ok (.getfield 12, 3) := by decide +kernel
theorem ddA_feed_94 : decode cA_feed 94 = .ok (.iload 4, 2) := by decide +kernel
theorem ddA_feed_96 : decode cA_feed 96 = .ok (.invokevirtual 101, 3) := by decide +kernel
theorem ddA_feed_99 : decode cA_feed 99 = .ok (.aload_n 0, 1) := by decide +kernel
theorem ddA_feed_100 : decode cA_feed 100 = .ok (.getfield 12, 3) := by decide +kernel
theorem ddA_feed_103 : decode cA_feed 103 = .ok (.iload 5, 2) := by decide +kernel
theorem ddA_feed_105 : decode cA_feed 105 = .ok (.invokevirtual 101, 3) := by decide +kernel
theorem ddA_feed_108 : decode cA_feed 108 = .ok (.aload_n 0, 1) := by decide +kernel
theorem ddA_feed_109 : decode cA_feed 109 = .ok (.getfield 12, 3) := by decide +kernel
theorem ddA_feed_112 : decode cA_feed 112 = .ok (.getfield 98, 3) := by decide +kernel
theorem ddA_feed_115 : decode cA_feed 115 = .ok (.ireturn, 1) := by decide +kernel
set_option maxHeartbeats 2000000 in
theorem xA_feed {G : GXM} {l : Launch} (hG : GokM G) (d : Nat) (hd : 1 ≤ d) {v0 : Nat} {v1 : Int32} {v2 : Int32} {v3 : Int32} {v4 : Int32} {v5 : Int32} {M : Mem} {q : Int32 × Mem} (h : fA_feed v0 v1 v2 v3 v4 v5 M = some q) : ExM G l d 0 0 yA_feed cA_feed 7 (some .int) [.ref v0, .int v1, .int v2, .int v3, .int v4, .int v5] M (some (.int q.1)) q.2 := by
  refine ex_of hG (by decide +kernel) (Nat.le_of_ble_eq_true rfl) ?_
  intro X hl C E N hD hn
  show ZM G X 0 [(0, .ref v0), (1, .int v1), (2, .int v2), (3, .int v3), (4, .int v4), (5, .int v5)] [] M 0 0
  unfold fA_feed at h
  refine zz_aload_n C 0 ddA_feed_0 rfl rfl ?_
  obtain ⟨h1, h⟩ := gdN h
  obtain ⟨h2, h⟩ := gdN h
  refine zz_getr C ddA_feed_1 fl_A_12 rfl h1 (of_decide_eq_true h2) ?_
  refine zz_iload_n C 1 ddA_feed_4 rfl rfl ?_
  obtain ⟨h4, h⟩ := gdN h
  obtain ⟨q3, hq3, h⟩ := bindN h
  refine zz_callV0 (As := [.int v1]) C ddA_feed_5 wd_338 my_T_signsIn mv_T_signsIn ⟨_, rfl, rfl⟩ (xT_signsIn hG (d - 1) (by omega) hq3) (by omega) h4 rfl rfl (Nat.le_of_ble_eq_true rfl) ?_
  refine zz_aload_n C 0 ddA_feed_8 rfl rfl ?_
  obtain ⟨h5, h⟩ := gdN h
  obtain ⟨h6, h⟩ := gdN h
  refine zz_getr C ddA_feed_9 fl_A_12 rfl h5 (of_decide_eq_true h6) ?_
  refine zz_iload_n C 2 ddA_feed_12 rfl rfl ?_
  obtain ⟨h8, h⟩ := gdN h
  obtain ⟨q7, hq7, h⟩ := bindN h
  refine zz_callV0 (As := [.int v2]) C ddA_feed_13 wd_338 my_T_signsIn mv_T_signsIn ⟨_, rfl, rfl⟩ (xT_signsIn hG (d - 1) (by omega) hq7) (by omega) h8 rfl rfl (Nat.le_of_ble_eq_true rfl) ?_
  refine zz_iadd C ddA_feed_16 ?_
  refine zz_aload_n C 0 ddA_feed_17 rfl rfl ?_
  obtain ⟨h9, h⟩ := gdN h
  obtain ⟨h10, h⟩ := gdN h
  refine zz_getr C ddA_feed_18 fl_A_12 rfl h9 (of_decide_eq_true h10) ?_
  refine zz_iload_n C 3 ddA_feed_21 rfl rfl ?_
  obtain ⟨h12, h⟩ := gdN h
  obtain ⟨q11, hq11, h⟩ := bindN h
  refine zz_callV0 (As := [.int v3]) C ddA_feed_22 wd_338 my_T_signsIn mv_T_signsIn ⟨_, rfl, rfl⟩ (xT_signsIn hG (d - 1) (by omega) hq11) (by omega) h12 rfl rfl (Nat.le_of_ble_eq_true rfl) ?_
  refine zz_iadd C ddA_feed_25 ?_
  refine zz_aload_n C 0 ddA_feed_26 rfl rfl ?_
  obtain ⟨h13, h⟩ := gdN h
  obtain ⟨h14, h⟩ := gdN h
  refine zz_getr C ddA_feed_27 fl_A_12 rfl h13 (of_decide_eq_true h14) ?_
  refine zz_iload C 4 ddA_feed_30 rfl ?_
  obtain ⟨h16, h⟩ := gdN h
  obtain ⟨q15, hq15, h⟩ := bindN h
  refine zz_callV0 (As := [.int v4]) C ddA_feed_32 wd_338 my_T_signsIn mv_T_signsIn ⟨_, rfl, rfl⟩ (xT_signsIn hG (d - 1) (by omega) hq15) (by omega) h16 rfl rfl (Nat.le_of_ble_eq_true rfl) ?_
  refine zz_iadd C ddA_feed_35 ?_
  refine zz_aload_n C 0 ddA_feed_36 rfl rfl ?_
  obtain ⟨h17, h⟩ := gdN h
  obtain ⟨h18, h⟩ := gdN h
  refine zz_getr C ddA_feed_37 fl_A_12 rfl h17 (of_decide_eq_true h18) ?_
  refine zz_iload C 5 ddA_feed_40 rfl ?_
  obtain ⟨h20, h⟩ := gdN h
  obtain ⟨q19, hq19, h⟩ := bindN h
  refine zz_callV0 (As := [.int v5]) C ddA_feed_42 wd_338 my_T_signsIn mv_T_signsIn ⟨_, rfl, rfl⟩ (xT_signsIn hG (d - 1) (by omega) hq19) (by omega) h20 rfl rfl (Nat.le_of_ble_eq_true rfl) ?_
  refine zz_iadd C ddA_feed_45 ?_
  refine zz_istore (L1 := [(6, .int ((((q3.1 + q7.1) + q11.1) + q15.1) + q19.1)), (0, .ref v0), (1, .int v1), (2, .int v2), (3, .int v3), (4, .int v4), (5, .int v5)]) C ddA_feed_46 N (by decide) rfl ?_
  refine zz_aload_n C 1 ddA_feed_48 rfl rfl ?_
  obtain ⟨h21, h⟩ := gdN h
  obtain ⟨h22, h⟩ := gdN h
  refine zz_getr C ddA_feed_49 fl_A_12 rfl h21 (of_decide_eq_true h22) ?_
  obtain ⟨h23, h⟩ := gdN h
  refine zz_geti C ddA_feed_52 fl_A_98 rfl h23 ?_
  refine zz_iload C 0 ddA_feed_55 rfl ?_
  refine zz_iadd C ddA_feed_57 ?_
  refine zz_sipush (v := 240) C ddA_feed_58 (by decide) ?_
  refine zz_icmp_le (tgt := 66) C ddA_feed_61 rfl (fun hc => ?_) (fun hc => ?_)
  · replace h := iteT h hc
    refine zz_aload_n C 1 ddA_feed_66 rfl rfl ?_
    refine zz_getr C ddA_feed_67 fl_A_12 rfl h21 (of_decide_eq_true h22) ?_
    refine zz_iload_n C 2 ddA_feed_70 rfl rfl ?_
    obtain ⟨q24, hq24, h⟩ := bindN h
    refine zz_callV0 (As := [.int v1]) C ddA_feed_71 wd_342 my_T_append mv_T_append ⟨_, rfl, rfl⟩ (xT_append hG (d - 1) (by omega) hq24) (by omega) h23 rfl rfl (Nat.le_of_ble_eq_true rfl) ?_
    refine zz_aload_n C 1 ddA_feed_74 rfl rfl ?_
    obtain ⟨h25, h⟩ := gdN h
    obtain ⟨h26, h⟩ := gdN h
    refine zz_getr C ddA_feed_75 fl_A_12 rfl h25 (of_decide_eq_true h26) ?_
    refine zz_iload_n C 3 ddA_feed_78 rfl rfl ?_
    obtain ⟨h28, h⟩ := gdN h
    obtain ⟨q27, hq27, h⟩ := bindN h
    refine zz_callV0 (As := [.int v2]) C ddA_feed_79 wd_342 my_T_append mv_T_append ⟨_, rfl, rfl⟩ (xT_append hG (d - 1) (by omega) hq27) (by omega) h28 rfl rfl (Nat.le_of_ble_eq_true rfl) ?_
    refine zz_aload_n C 1 ddA_feed_82 rfl rfl ?_
    obtain ⟨h29, h⟩ := gdN h
    obtain ⟨h30, h⟩ := gdN h
    refine zz_getr C ddA_feed_83 fl_A_12 rfl h29 (of_decide_eq_true h30) ?_
    refine zz_iload_n C 4 ddA_feed_86 rfl rfl ?_
    obtain ⟨h32, h⟩ := gdN h
    obtain ⟨q31, hq31, h⟩ := bindN h
    refine zz_callV0 (As := [.int v3]) C ddA_feed_87 wd_342 my_T_append mv_T_append ⟨_, rfl, rfl⟩ (xT_append hG (d - 1) (by omega) hq31) (by omega) h32 rfl rfl (Nat.le_of_ble_eq_true rfl) ?_
    refine zz_aload_n C 1 ddA_feed_90 rfl rfl ?_
    obtain ⟨h33, h⟩ := gdN h
    obtain ⟨h34, h⟩ := gdN h
    refine zz_getr C ddA_feed_91 fl_A_12 rfl h33 (of_decide_eq_true h34) ?_
    refine zz_iload C 5 ddA_feed_94 rfl ?_
    obtain ⟨h36, h⟩ := gdN h
    obtain ⟨q35, hq35, h⟩ := bindN h
    refine zz_callV0 (As := [.int v4]) C ddA_feed_96 wd_342 my_T_append mv_T_append ⟨_, rfl, rfl⟩ (xT_append hG (d - 1) (by omega) hq35) (by omega) h36 rfl rfl (Nat.le_of_ble_eq_true rfl) ?_
    refine zz_aload_n C 1 ddA_feed_99 rfl rfl ?_
    obtain ⟨h37, h⟩ := gdN h
    obtain ⟨h38, h⟩ := gdN h
    refine zz_getr C ddA_feed_100 fl_A_12 rfl h37 (of_decide_eq_true h38) ?_
    refine zz_iload C 6 ddA_feed_103 rfl ?_
    obtain ⟨h40, h⟩ := gdN h
    obtain ⟨q39, hq39, h⟩ := bindN h
    refine zz_callV0 (As := [.int v5]) C ddA_feed_105 wd_342 my_T_append mv_T_append ⟨_, rfl, rfl⟩ (xT_append hG (d - 1) (by omega) hq39) (by omega) h40 rfl rfl (Nat.le_of_ble_eq_true rfl) ?_
    refine zz_aload_n C 1 ddA_feed_108 rfl rfl ?_
    obtain ⟨h41, h⟩ := gdN h
    obtain ⟨h42, h⟩ := gdN h
    refine zz_getr C ddA_feed_109 fl_A_12 rfl h41 (of_decide_eq_true h42) ?_
    obtain ⟨h43, h⟩ := gdN h
    refine zz_geti C ddA_feed_112 fl_A_98 rfl h43 ?_
    obtain rfl := Option.some.inj h
    exact zz_iret C E ddA_feed_115
  · replace h := iteF h hc
    refine zz_iconst (v := (-1)) C ddA_feed_64 (by decide) ?_
    obtain rfl := Option.some.inj h
    exact zz_iret C E ddA_feed_65
theorem ddA_end_0 : decode cA_end 0 = .ok (.iload_n 1, 1) := by decide +kernel
theorem ddA_end_1 : decode cA_end 1 = .ok (.ifCond .lt 14, 3) := by decide +kernel
theorem ddA_end_4 : decode cA_end 4 = .ok (.iload_n 1, 1) := by decide +kernel
theorem ddA_end_5 : decode cA_end 5 = .ok (.aload_n 0, 1) := by decide +kernel
theorem ddA_end_6 : decode cA_end 6 = .ok (.getfield 12, 3) := by decide +kernel
theorem ddA_end_9 : decode cA_end 9 = .ok (.getfield 98, 3) := by decide +kernel
theorem ddA_end_12 : decode cA_end 12 = .ok (.if_icmp .le 5, 3) := by decide +kernel
theorem ddA_end_15 : decode cA_end 15 = .ok (.iconst 0, 1) := by decide +kernel
theorem ddA_end_16 : decode cA_end 16 = .ok (.ireturn, 1) := by decide +kernel
theorem ddA_end_17 : decode cA_end 17 = .ok (.aload_n 0, 1) := by decide +kernel
theorem ddA_end_18 : decode cA_end 18 = .ok (.getfield 12, 3) := by decide +kernel
theorem ddA_end_21 : decode cA_end 21 = .ok (.iload_n 1, 1) := by decide +kernel
theorem ddA_end_22 : decode cA_end 22 = .ok (.putfield 98, 3) := by decide +kernel
theorem ddA_end_25 : decode cA_end 25 = .ok (.iconst 1, 1) := by decide +kernel
theorem ddA_end_26 : decode cA_end 26 = .ok (.ireturn, 1) := by decide +kernel
set_option maxHeartbeats 2000000 in
theorem zBA_end_15 {G : GXM} {X : CxM} (hG : GokM G) (C : CoM G X cA_end "HomeFreed") (N : mLM X = 2) {d : Nat} (hD : dpM X = d) (hd : 0 ≤ d)  {q : Int32 × Mem} (E : EnM G X (some .boolean) (some (.int q.1)) q.2 0 0) {M : Mem} (h : BA_end_15 M = some q) : ZM G X 15 [] [] M 0 0 := by
  unfold BA_end_15 at h
  refine zz_iconst (v := 0) C ddA_end_15 (by decide) ?_
  obtain rfl := Option.some.inj h
  exact zz_zret C (by decide) E ddA_end_16
set_option maxHeartbeats 2000000 in
theorem xA_end {G : GXM} {l : Launch} (hG : GokM G) (d : Nat) (hd : 0 ≤ d) {v0 : Nat} {v1 : Int32} {M : Mem} {q : Int32 × Mem} (h : fA_end v0 v1 M = some q) : ExM G l d 0 0 yA_end cA_end 2 (some .boolean) [.ref v0, .int v1] M (some (.int q.1)) q.2 := by
  refine ex_of hG (by decide +kernel) (Nat.le_of_ble_eq_true rfl) ?_
  intro X hl C E N hD hn
  show ZM G X 0 [(0, .ref v0), (1, .int v1)] [] M 0 0
  unfold fA_end at h
  refine zz_iload_n C 1 ddA_end_0 rfl rfl ?_
  refine zz_if_lt (tgt := 15) C ddA_end_1 rfl (fun hc => ?_) (fun hc => ?_)
  · replace h := iteT h hc
    refine zz_loc (L1 := []) [] rfl ?_
    exact zBA_end_15 hG C N hD hd E h
  · replace h := iteF h hc
    refine zz_iload_n C 1 ddA_end_4 rfl rfl ?_
    refine zz_aload_n C 0 ddA_end_5 rfl rfl ?_
    obtain ⟨h1, h⟩ := gdN h
    obtain ⟨h2, h⟩ := gdN h
    refine zz_getr C ddA_end_6 fl_A_12 rfl h1 (of_decide_eq_true h2) ?_
    obtain ⟨h3, h⟩ := gdN h
    refine zz_geti C ddA_end_9 fl_A_98 rfl h3 ?_
    refine zz_icmp_le (tgt := 17) C ddA_end_12 rfl (fun hc => ?_) (fun hc => ?_)
    · replace h := iteT h hc
      refine zz_aload_n C 0 ddA_end_17 rfl rfl ?_
      refine zz_getr C ddA_end_18 fl_A_12 rfl h1 (of_decide_eq_true h2) ?_
      refine zz_iload_n C 1 ddA_end_21 rfl rfl ?_
      refine zz_puti C ddA_end_22 fl_A_98 rfl rfl rfl h3 ?_
      refine zz_iconst (v := 1) C ddA_end_25 (by decide) ?_
      obtain rfl := Option.some.inj h
      exact zz_zret C (by decide) E ddA_end_26
    · replace h := iteF h hc
      refine zz_loc (L1 := []) [] rfl ?_
      exact zBA_end_15 hG C N hD hd E h
theorem ddR_rewind_0 : decode cR_rewind 0 = .ok (.aload_n 0, 1) := by decide +kernel
theorem ddR_rewind_1 : decode cR_rewind 1 = .ok (.iconst 0, 1) := by decide +kernel
theorem ddR_rewind_2 : decode cR_rewind 2 = .ok (.putfield 15, 3) := by decide +kernel
theorem ddR_rewind_5 : decode cR_rewind 5 = .ok (.aload_n 0, 1) := by decide +kernel
theorem ddR_rewind_6 : decode cR_rewind 6 = .ok (.iconst (-1), 1) := by decide +kernel
theorem ddR_rewind_7 : decode cR_rewind 7 = .ok (.putfield 19, 3) := by decide +kernel
theorem ddR_rewind_10 : decode cR_rewind 10 = .ok (.return_, 1) := by decide +kernel
set_option maxHeartbeats 2000000 in
theorem xR_rewind {G : GXM} {l : Launch} (hG : GokM G) (d : Nat) (hd : 0 ≤ d) {v0 : Nat} {M : Mem} {q : Mem} (h : fR_rewind v0 M = some q) : ExM G l d 0 0 yR_rewind cR_rewind 1 none [.ref v0] M none q := by
  refine ex_of hG (by decide +kernel) (Nat.le_of_ble_eq_true rfl) ?_
  intro X hl C E N hD hn
  show ZM G X 0 [(0, .ref v0)] [] M 0 0
  unfold fR_rewind at h
  refine zz_aload_n C 0 ddR_rewind_0 rfl rfl ?_
  refine zz_iconst (v := 0) C ddR_rewind_1 (by decide) ?_
  obtain ⟨h1, h⟩ := gdN h
  refine zz_puti C ddR_rewind_2 fl_R_15 rfl rfl rfl h1 ?_
  refine zz_aload_n C 0 ddR_rewind_5 rfl rfl ?_
  refine zz_iconst (v := (-1)) C ddR_rewind_6 (by decide) ?_
  refine zz_puti C ddR_rewind_7 fl_R_19 rfl rfl rfl h1 ?_
  obtain rfl := Option.some.inj h
  exact zz_vret C E ddR_rewind_10
theorem ddR_isWrong_0 : decode cR_isWrong 0 = .ok (.aload_n 0, 1) := by decide +kernel
theorem ddR_isWrong_1 : decode cR_isWrong 1 = .ok (.getfield 19, 3) := by decide +kernel
theorem ddR_isWrong_4 : decode cR_isWrong 4 = .ok (.iconst (-1), 1) := by decide +kernel
theorem ddR_isWrong_5 : decode cR_isWrong 5 = .ok (.if_icmp .eq 7, 3) := by decide +kernel
theorem ddR_isWrong_8 : decode cR_isWrong 8 = .ok (.iconst 1, 1) := by decide +kernel
theorem ddR_isWrong_9 : decode cR_isWrong 9 = .ok (.goto 4, 3) := by decide +kernel
theorem ddR_isWrong_12 : decode cR_isWrong 12 = .ok (.iconst 0, 1) := by decide +kernel
theorem ddR_isWrong_13 : decode cR_isWrong 13 = .ok (.ireturn, 1) := by decide +kernel
set_option maxHeartbeats 2000000 in
theorem zBR_isWrong_13 {G : GXM} {X : CxM} (hG : GokM G) (C : CoM G X cR_isWrong "HomeFreed$Reader") (N : mLM X = 1) {d : Nat} (hD : dpM X = d) (hd : 0 ≤ d)  {q : Int32 × Mem} (E : EnM G X (some .boolean) (some (.int q.1)) q.2 0 0) {w0 : Int32} {M : Mem} (h : BR_isWrong_13 w0 M = some q) : ZM G X 13 [] [.int w0] M 0 0 := by
  unfold BR_isWrong_13 at h
  obtain ⟨h1, h⟩ := gdN h
  obtain rfl := Option.some.inj h
  exact zz_zret C (of_decide_eq_true h1) E ddR_isWrong_13
set_option maxHeartbeats 2000000 in
theorem xR_isWrong {G : GXM} {l : Launch} (hG : GokM G) (d : Nat) (hd : 0 ≤ d) {v0 : Nat} {M : Mem} {q : Int32 × Mem} (h : fR_isWrong v0 M = some q) : ExM G l d 0 0 yR_isWrong cR_isWrong 1 (some .boolean) [.ref v0] M (some (.int q.1)) q.2 := by
  refine ex_of hG (by decide +kernel) (Nat.le_of_ble_eq_true rfl) ?_
  intro X hl C E N hD hn
  show ZM G X 0 [(0, .ref v0)] [] M 0 0
  unfold fR_isWrong at h
  refine zz_aload_n C 0 ddR_isWrong_0 rfl rfl ?_
  obtain ⟨h1, h⟩ := gdN h
  refine zz_geti C ddR_isWrong_1 fl_R_19 rfl h1 ?_
  refine zz_iconst (v := (-1)) C ddR_isWrong_4 (by decide) ?_
  refine zz_icmp_eq (tgt := 12) C ddR_isWrong_5 rfl (fun hc => ?_) (fun hc => ?_)
  · replace h := iteT h hc
    refine zz_iconst (v := 0) C ddR_isWrong_12 (by decide) ?_
    refine zz_loc (L1 := []) [] rfl ?_
    exact zBR_isWrong_13 hG C N hD hd E h
  · replace h := iteF h hc
    refine zz_iconst (v := 1) C ddR_isWrong_8 (by decide) ?_
    refine zz_goto (tgt := 13) C ddR_isWrong_9 rfl ?_
    refine zz_loc (L1 := []) [] rfl ?_
    exact zBR_isWrong_13 hG C N hD hd E h
theorem ddR_peek_0 : decode cR_peek 0 = .ok (.aload_n 0, 1) := by decide +kernel
theorem ddR_peek_1 : decode cR_peek 1 = .ok (.getfield 15, 3) := by decide +kernel
theorem ddR_peek_4 : decode cR_peek 4 = .ok (.aload_n 0, 1) := by decide +kernel
theorem ddR_peek_5 : decode cR_peek 5 = .ok (.getfield 9, 3) := by decide +kernel
theorem ddR_peek_8 : decode cR_peek 8 = .ok (.getfield 22, 3) := by decide +kernel
theorem ddR_peek_11 : decode cR_peek 11 = .ok (.if_icmp .ge 33, 3) := by decide +kernel
theorem ddR_peek_14 : decode cR_peek 14 = .ok (.aload_n 0, 1) := by decide +kernel
theorem ddR_peek_15 : decode cR_peek 15 = .ok (.getfield 9, 3) := by decide +kernel
theorem ddR_peek_18 : decode cR_peek 18 = .ok (.getfield 27, 3) := by decide +kernel
theorem ddR_peek_21 : decode cR_peek 21 = .ok (.aload_n 0, 1) := by decide +kernel
theorem ddR_peek_22 : decode cR_peek 22 = .ok (.getfield 15, 3) := by decide +kernel
theorem ddR_peek_25 : decode cR_peek 25 = .ok (.iaload, 1) := by decide +kernel
theorem ddR_peek_26 : decode cR_peek 26 = .ok (.bipush 32, 2) := by decide +kernel
theorem ddR_peek_28 : decode cR_peek 28 = .ok (.if_icmp .ne 16, 3) := by decide +kernel
theorem ddR_peek_31 : decode cR_peek 31 = .ok (.aload_n 0, 1) := by decide +kernel
theorem ddR_peek_32 : decode cR_peek 32 = .ok (.dup, 1) := by decide +kernel
theorem ddR_peek_33 : decode cR_peek 33 = .ok (.getfield 15, 3) := by decide +kernel
theorem ddR_peek_36 : decode cR_peek 36 = .ok (.iconst 1, 1) := by decide +kernel
theorem ddR_peek_37 : decode cR_peek 37 = .ok (.iadd, 1) := by decide +kernel
theorem ddR_peek_38 : decode cR_peek 38 = .ok (.putfield 15, 3) := by decide +kernel
theorem ddR_peek_41 : decode cR_peek 41 = .ok (.goto (-41), 3) := by decide +kernel
theorem ddR_peek_44 : decode cR_peek 44 = .ok (.aload_n 0, 1) := by decide +kernel
theorem ddR_peek_45 : decode cR_peek 45 = .ok (.getfield 15, 3) := by decide +kernel
theorem ddR_peek_48 : decode cR_peek 48 = .ok (.aload_n 0, 1) := by decide +kernel
theorem ddR_peek_49 : decode cR_peek 49 = .ok (.getfield 9, 3) := by decide +kernel
theorem ddR_peek_52 : decode cR_peek 52 = .ok (.getfield 22, 3) := by decide +kernel
theorem ddR_peek_55 : decode cR_peek 55 = .ok (.if_icmp .ge 18, 3) := by decide +kernel
theorem ddR_peek_58 : decode cR_peek 58 = .ok (.aload_n 0, 1) := by decide +kernel
theorem ddR_peek_59 : decode cR_peek 59 = .ok (.getfield 9, 3) := by decide +kernel
theorem ddR_peek_62 : decode cR_peek 62 = .ok (.getfield 27, 3) := by decide +kernel
theorem ddR_peek_65 : decode cR_peek 65 = .ok (.aload_n 0, 1) := by decide +kernel
theorem ddR_peek_66 : decode cR_peek 66 = .ok (.getfield 15, 3) := by decide +kernel
theorem ddR_peek_69 : decode cR_peek 69 = .ok (.iaload, 1) := by decide +kernel
theorem ddR_peek_70 : decode cR_peek 70 = .ok (.goto 4, 3) := by decide +kernel
theorem ddR_peek_73 : decode cR_peek 73 = .ok (.iconst (-1), 1) := by decide +kernel
theorem ddR_peek_74 : decode cR_peek 74 = .ok (.ireturn, 1) := by decide +kernel
set_option maxHeartbeats 2000000 in
theorem zBR_peek_74 {G : GXM} {X : CxM} (hG : GokM G) (C : CoM G X cR_peek "HomeFreed$Reader") (N : mLM X = 1) {d : Nat} (hD : dpM X = d) (hd : 0 ≤ d)  {q : Int32 × Mem} (E : EnM G X (some .int) (some (.int q.1)) q.2 0 0) {w0 : Int32} {M : Mem} (h : BR_peek_74 w0 M = some q) : ZM G X 74 [] [.int w0] M 0 0 := by
  unfold BR_peek_74 at h
  obtain rfl := Option.some.inj h
  exact zz_iret C E ddR_peek_74
set_option maxHeartbeats 2000000 in
theorem zBR_peek_44 {G : GXM} {X : CxM} (hG : GokM G) (C : CoM G X cR_peek "HomeFreed$Reader") (N : mLM X = 1) {d : Nat} (hD : dpM X = d) (hd : 0 ≤ d)  {q : Int32 × Mem} (E : EnM G X (some .int) (some (.int q.1)) q.2 0 0) {v0 : Nat} {M : Mem} (h : BR_peek_44 v0 M = some q) : ZM G X 44 [(0, .ref v0)] [] M 0 0 := by
  unfold BR_peek_44 at h
  refine zz_aload_n C 0 ddR_peek_44 rfl rfl ?_
  obtain ⟨h1, h⟩ := gdN h
  refine zz_geti C ddR_peek_45 fl_R_15 rfl h1 ?_
  refine zz_aload_n C 0 ddR_peek_48 rfl rfl ?_
  obtain ⟨h2, h⟩ := gdN h
  refine zz_getr C ddR_peek_49 fl_R_9 rfl h1 (of_decide_eq_true h2) ?_
  obtain ⟨h3, h⟩ := gdN h
  refine zz_geti C ddR_peek_52 fl_R_22 rfl h3 ?_
  refine zz_icmp_ge (tgt := 73) C ddR_peek_55 rfl (fun hc => ?_) (fun hc => ?_)
  · replace h := iteT h hc
    refine zz_iconst (v := (-1)) C ddR_peek_73 (by decide) ?_
    refine zz_loc (L1 := []) [] rfl ?_
    exact zBR_peek_74 hG C N hD hd E h
  · replace h := iteF h hc
    refine zz_aload_n C 0 ddR_peek_58 rfl rfl ?_
    refine zz_getr C ddR_peek_59 fl_R_9 rfl h1 (of_decide_eq_true h2) ?_
    obtain ⟨h4, h⟩ := gdN h
    refine zz_getr C ddR_peek_62 fl_R_27 rfl h3 (of_decide_eq_true h4) ?_
    refine zz_aload_n C 0 ddR_peek_65 rfl rfl ?_
    refine zz_geti C ddR_peek_66 fl_R_15 rfl h1 ?_
    obtain ⟨h5, h⟩ := gdN h
    refine zz_iaload C ddR_peek_69 h5 ?_
    refine zz_goto (tgt := 74) C ddR_peek_70 rfl ?_
    refine zz_loc (L1 := []) [] rfl ?_
    exact zBR_peek_74 hG C N hD hd E h
set_option maxHeartbeats 2000000 in
theorem zBR_peek_0 {G : GXM} {X : CxM} (hG : GokM G) (C : CoM G X cR_peek "HomeFreed$Reader") (N : mLM X = 1) {d : Nat} (hD : dpM X = d) (hd : 0 ≤ d) {v0 : Nat} {K : Nat → Mem → Option ((Mem))} {q : (Mem)} (hK : ∀  (M : Mem), K v0 M = some q → ZM G X 0 [(0, .ref v0)] [] M 0 0) (hx0 : ∀ y : Mem, q = y → ZM G X 44 [(0, .ref v0)] [] y 0 0) {M : Mem} (h : BR_peek_0 K v0 M = some q) : ZM G X 0 [(0, .ref v0)] [] M 0 0 := by
  unfold BR_peek_0 at h
  refine zz_aload_n C 0 ddR_peek_0 rfl rfl ?_
  obtain ⟨h1, h⟩ := gdN h
  refine zz_geti C ddR_peek_1 fl_R_15 rfl h1 ?_
  refine zz_aload_n C 0 ddR_peek_4 rfl rfl ?_
  obtain ⟨h2, h⟩ := gdN h
  refine zz_getr C ddR_peek_5 fl_R_9 rfl h1 (of_decide_eq_true h2) ?_
  obtain ⟨h3, h⟩ := gdN h
  refine zz_geti C ddR_peek_8 fl_R_22 rfl h3 ?_
  refine zz_icmp_ge (tgt := 44) C ddR_peek_11 rfl (fun hc => ?_) (fun hc => ?_)
  · replace h := iteT h hc
    exact hx0 _ (Option.some.inj h).symm
  · replace h := iteF h hc
    refine zz_aload_n C 0 ddR_peek_14 rfl rfl ?_
    refine zz_getr C ddR_peek_15 fl_R_9 rfl h1 (of_decide_eq_true h2) ?_
    obtain ⟨h4, h⟩ := gdN h
    refine zz_getr C ddR_peek_18 fl_R_27 rfl h3 (of_decide_eq_true h4) ?_
    refine zz_aload_n C 0 ddR_peek_21 rfl rfl ?_
    refine zz_geti C ddR_peek_22 fl_R_15 rfl h1 ?_
    obtain ⟨h5, h⟩ := gdN h
    refine zz_iaload C ddR_peek_25 h5 ?_
    refine zz_bipush (v := 32) C ddR_peek_26 (by decide) ?_
    refine zz_icmp_ne (tgt := 44) C ddR_peek_28 rfl (fun hc => ?_) (fun hc => ?_)
    · replace h := iteF h hc
      exact hx0 _ (Option.some.inj h).symm
    · replace h := iteT h hc
      refine zz_aload_n C 0 ddR_peek_31 rfl rfl ?_
      refine zz_dup C ddR_peek_32 rfl ?_
      refine zz_geti C ddR_peek_33 fl_R_15 rfl h1 ?_
      refine zz_iconst (v := 1) C ddR_peek_36 (by decide) ?_
      refine zz_iadd C ddR_peek_37 ?_
      refine zz_puti C ddR_peek_38 fl_R_15 rfl rfl rfl h1 ?_
      refine zz_goto (tgt := 0) C ddR_peek_41 rfl ?_
      exact hK  _ h
set_option maxHeartbeats 2000000 in
theorem zLR_peek_0 {G : GXM} {X : CxM} (hG : GokM G) (C : CoM G X cR_peek "HomeFreed$Reader") (N : mLM X = 1) {d : Nat} (hD : dpM X = d) (hd : 0 ≤ d) {v0 : Nat} {q : (Mem)} : ∀ (f : Nat)  (M : Mem), LR_peek_0 f v0 M = some q → (hx0 : ∀ y : Mem, q = y → ZM G X 44 [(0, .ref v0)] [] y 0 0) → ZM G X 0 [(0, .ref v0)] [] M 0 0 := by
  intro f
  induction f with
  | zero => intro  M h; cases h
  | succ f ih =>
    intro  M h hx0
    exact zBR_peek_0 hG C N hD hd (K := LR_peek_0 f) (q := q) (fun  M h => ih  M h hx0) hx0 h
set_option maxHeartbeats 2000000 in
theorem xR_peek {G : GXM} {l : Launch} (hG : GokM G) (d : Nat) (hd : 0 ≤ d) {v0 : Nat} {M : Mem} {q : Int32 × Mem} (h : fR_peek v0 M = some q) : ExM G l d 0 0 yR_peek cR_peek 1 (some .int) [.ref v0] M (some (.int q.1)) q.2 := by
  refine ex_of hG (by decide +kernel) (Nat.le_of_ble_eq_true rfl) ?_
  intro X hl C E N hD hn
  show ZM G X 0 [(0, .ref v0)] [] M 0 0
  unfold fR_peek at h
  obtain ⟨q1, hq1, h⟩ := bindN h
  refine zLR_peek_0 hG C N hD hd 1000000  _ hq1 ?_
  · intro y2 eq1; subst eq1
    exact zBR_peek_44 hG C N hD hd E h
theorem ddR_pass_0 : decode cR_pass 0 = .ok (.aload_n 0, 1) := by decide +kernel
theorem ddR_pass_1 : decode cR_pass 1 = .ok (.getfield 15, 3) := by decide +kernel
theorem ddR_pass_4 : decode cR_pass 4 = .ok (.aload_n 0, 1) := by decide +kernel
theorem ddR_pass_5 : decode cR_pass 5 = .ok (.getfield 9, 3) := by decide +kernel
theorem ddR_pass_8 : decode cR_pass 8 = .ok (.getfield 22, 3) := by decide +kernel
theorem ddR_pass_11 : decode cR_pass 11 = .ok (.if_icmp .ge 13, 3) := by decide +kernel
theorem ddR_pass_14 : decode cR_pass 14 = .ok (.aload_n 0, 1) := by decide +kernel
theorem ddR_pass_15 : decode cR_pass 15 = .ok (.dup, 1) := by decide +kernel
theorem ddR_pass_16 : decode cR_pass 16 = .ok (.getfield 15, 3) := by decide +kernel
theorem ddR_pass_19 : decode cR_pass 19 = .ok (.iconst 1, 1) := by decide +kernel
theorem ddR_pass_20 : decode cR_pass 20 = .ok (.iadd, 1) := by decide +kernel
theorem ddR_pass_21 : decode cR_pass 21 = .ok (.putfield 15, 3) := by decide +kernel
theorem ddR_pass_24 : decode cR_pass 24 = .ok (.return_, 1) := by decide +kernel
set_option maxHeartbeats 2000000 in
theorem zBR_pass_24 {G : GXM} {X : CxM} (hG : GokM G) (C : CoM G X cR_pass "HomeFreed$Reader") (N : mLM X = 1) {d : Nat} (hD : dpM X = d) (hd : 0 ≤ d)  {q : Mem} (E : EnM G X none none q 0 0) {M : Mem} (h : BR_pass_24 M = some q) : ZM G X 24 [] [] M 0 0 := by
  unfold BR_pass_24 at h
  obtain rfl := Option.some.inj h
  exact zz_vret C E ddR_pass_24
set_option maxHeartbeats 2000000 in
theorem xR_pass {G : GXM} {l : Launch} (hG : GokM G) (d : Nat) (hd : 0 ≤ d) {v0 : Nat} {M : Mem} {q : Mem} (h : fR_pass v0 M = some q) : ExM G l d 0 0 yR_pass cR_pass 1 none [.ref v0] M none q := by
  refine ex_of hG (by decide +kernel) (Nat.le_of_ble_eq_true rfl) ?_
  intro X hl C E N hD hn
  show ZM G X 0 [(0, .ref v0)] [] M 0 0
  unfold fR_pass at h
  refine zz_aload_n C 0 ddR_pass_0 rfl rfl ?_
  obtain ⟨h1, h⟩ := gdN h
  refine zz_geti C ddR_pass_1 fl_R_15 rfl h1 ?_
  refine zz_aload_n C 0 ddR_pass_4 rfl rfl ?_
  obtain ⟨h2, h⟩ := gdN h
  refine zz_getr C ddR_pass_5 fl_R_9 rfl h1 (of_decide_eq_true h2) ?_
  obtain ⟨h3, h⟩ := gdN h
  refine zz_geti C ddR_pass_8 fl_R_22 rfl h3 ?_
  refine zz_icmp_ge (tgt := 24) C ddR_pass_11 rfl (fun hc => ?_) (fun hc => ?_)
  · replace h := iteT h hc
    refine zz_loc (L1 := []) [] rfl ?_
    exact zBR_pass_24 hG C N hD hd E h
  · replace h := iteF h hc
    refine zz_aload_n C 0 ddR_pass_14 rfl rfl ?_
    refine zz_dup C ddR_pass_15 rfl ?_
    refine zz_geti C ddR_pass_16 fl_R_15 rfl h1 ?_
    refine zz_iconst (v := 1) C ddR_pass_19 (by decide) ?_
    refine zz_iadd C ddR_pass_20 ?_
    refine zz_puti C ddR_pass_21 fl_R_15 rfl rfl rfl h1 ?_
    refine zz_loc (L1 := []) [] rfl ?_
    exact zBR_pass_24 hG C N hD hd E h
theorem ddR_mark_0 : decode cR_mark 0 = .ok (.aload_n 0, 1) := by decide +kernel
theorem ddR_mark_1 : decode cR_mark 1 = .ok (.getfield 19, 3) := by decide +kernel
theorem ddR_mark_4 : decode cR_mark 4 = .ok (.iconst (-1), 1) := by decide +kernel
theorem ddR_mark_5 : decode cR_mark 5 = .ok (.if_icmp .ne 11, 3) := by decide +kernel
theorem ddR_mark_8 : decode cR_mark 8 = .ok (.aload_n 0, 1) := by decide +kernel
theorem ddR_mark_9 : decode cR_mark 9 = .ok (.aload_n 0, 1) := by decide +kernel
theorem ddR_mark_10 : decode cR_mark 10 = .ok (.getfield 15, 3) := by decide +kernel
theorem ddR_mark_13 : decode cR_mark 13 = .ok (.putfield 19, 3) := by decide +kernel
theorem ddR_mark_16 : decode cR_mark 16 = .ok (.return_, 1) := by decide +kernel
set_option maxHeartbeats 2000000 in
theorem zBR_mark_16 {G : GXM} {X : CxM} (hG : GokM G) (C : CoM G X cR_mark "HomeFreed$Reader") (N : mLM X = 1) {d : Nat} (hD : dpM X = d) (hd : 0 ≤ d)  {q : Mem} (E : EnM G X none none q 0 0) {M : Mem} (h : BR_mark_16 M = some q) : ZM G X 16 [] [] M 0 0 := by
  unfold BR_mark_16 at h
  obtain rfl := Option.some.inj h
  exact zz_vret C E ddR_mark_16
set_option maxHeartbeats 2000000 in
theorem xR_mark {G : GXM} {l : Launch} (hG : GokM G) (d : Nat) (hd : 0 ≤ d) {v0 : Nat} {M : Mem} {q : Mem} (h : fR_mark v0 M = some q) : ExM G l d 0 0 yR_mark cR_mark 1 none [.ref v0] M none q := by
  refine ex_of hG (by decide +kernel) (Nat.le_of_ble_eq_true rfl) ?_
  intro X hl C E N hD hn
  show ZM G X 0 [(0, .ref v0)] [] M 0 0
  unfold fR_mark at h
  refine zz_aload_n C 0 ddR_mark_0 rfl rfl ?_
  obtain ⟨h1, h⟩ := gdN h
  refine zz_geti C ddR_mark_1 fl_R_19 rfl h1 ?_
  refine zz_iconst (v := (-1)) C ddR_mark_4 (by decide) ?_
  refine zz_icmp_ne (tgt := 16) C ddR_mark_5 rfl (fun hc => ?_) (fun hc => ?_)
  · replace h := iteF h hc
    refine zz_loc (L1 := []) [] rfl ?_
    exact zBR_mark_16 hG C N hD hd E h
  · replace h := iteT h hc
    refine zz_aload_n C 0 ddR_mark_8 rfl rfl ?_
    refine zz_aload_n C 0 ddR_mark_9 rfl rfl ?_
    refine zz_geti C ddR_mark_10 fl_R_15 rfl h1 ?_
    refine zz_puti C ddR_mark_13 fl_R_19 rfl rfl rfl h1 ?_
    refine zz_loc (L1 := []) [] rfl ?_
    exact zBR_mark_16 hG C N hD hd E h
theorem ddR_isDigit_0 : decode cR_isDigit 0 = .ok (.iload_n 0, 1) := by decide +kernel
theorem ddR_isDigit_1 : decode cR_isDigit 1 = .ok (.bipush 48, 2) := by decide +kernel
theorem ddR_isDigit_3 : decode cR_isDigit 3 = .ok (.if_icmp .lt 13, 3) := by decide +kernel
theorem ddR_isDigit_6 : decode cR_isDigit 6 = .ok (.iload_n 0, 1) := by decide +kernel
theorem ddR_isDigit_7 : decode cR_isDigit 7 = .ok (.bipush 57, 2) := by decide +kernel
theorem ddR_isDigit_9 : decode cR_isDigit 9 = .ok (.if_icmp .gt 7, 3) := by decide +kernel
theorem ddR_isDigit_12 : decode cR_isDigit 12 = .ok (.iconst 1, 1) := by decide +kernel
theorem ddR_isDigit_13 : decode cR_isDigit 13 = .ok (.goto 4, 3) := by decide +kernel
theorem ddR_isDigit_16 : decode cR_isDigit 16 = .ok (.iconst 0, 1) := by decide +kernel
theorem ddR_isDigit_17 : decode cR_isDigit 17 = .ok (.ireturn, 1) := by decide +kernel
set_option maxHeartbeats 2000000 in
theorem zBR_isDigit_17 {G : GXM} {X : CxM} (hG : GokM G) (C : CoM G X cR_isDigit "HomeFreed$Reader") (N : mLM X = 1) {d : Nat} (hD : dpM X = d) (hd : 0 ≤ d)  {q : Int32 × Mem} (E : EnM G X (some .boolean) (some (.int q.1)) q.2 0 0) {w0 : Int32} {M : Mem} (h : BR_isDigit_17 w0 M = some q) : ZM G X 17 [] [.int w0] M 0 0 := by
  unfold BR_isDigit_17 at h
  obtain ⟨h1, h⟩ := gdN h
  obtain rfl := Option.some.inj h
  exact zz_zret C (of_decide_eq_true h1) E ddR_isDigit_17
set_option maxHeartbeats 2000000 in
theorem zBR_isDigit_16 {G : GXM} {X : CxM} (hG : GokM G) (C : CoM G X cR_isDigit "HomeFreed$Reader") (N : mLM X = 1) {d : Nat} (hD : dpM X = d) (hd : 0 ≤ d)  {q : Int32 × Mem} (E : EnM G X (some .boolean) (some (.int q.1)) q.2 0 0) {M : Mem} (h : BR_isDigit_16 M = some q) : ZM G X 16 [] [] M 0 0 := by
  unfold BR_isDigit_16 at h
  refine zz_iconst (v := 0) C ddR_isDigit_16 (by decide) ?_
  exact zBR_isDigit_17 hG C N hD hd E h
set_option maxHeartbeats 2000000 in
theorem xR_isDigit {G : GXM} {l : Launch} (hG : GokM G) (d : Nat) (hd : 0 ≤ d) {v0 : Int32} {M : Mem} {q : Int32 × Mem} (h : fR_isDigit v0 M = some q) : ExM G l d 0 0 yR_isDigit cR_isDigit 1 (some .boolean) [.int v0] M (some (.int q.1)) q.2 := by
  refine ex_of hG (by decide +kernel) (Nat.le_of_ble_eq_true rfl) ?_
  intro X hl C E N hD hn
  show ZM G X 0 [(0, .int v0)] [] M 0 0
  unfold fR_isDigit at h
  refine zz_iload_n C 0 ddR_isDigit_0 rfl rfl ?_
  refine zz_bipush (v := 48) C ddR_isDigit_1 (by decide) ?_
  refine zz_icmp_lt (tgt := 16) C ddR_isDigit_3 rfl (fun hc => ?_) (fun hc => ?_)
  · replace h := iteT h hc
    refine zz_loc (L1 := []) [] rfl ?_
    exact zBR_isDigit_16 hG C N hD hd E h
  · replace h := iteF h hc
    refine zz_iload_n C 0 ddR_isDigit_6 rfl rfl ?_
    refine zz_bipush (v := 57) C ddR_isDigit_7 (by decide) ?_
    refine zz_icmp_gt (tgt := 16) C ddR_isDigit_9 rfl (fun hc => ?_) (fun hc => ?_)
    · replace h := iteT h hc
      refine zz_loc (L1 := []) [] rfl ?_
      exact zBR_isDigit_16 hG C N hD hd E h
    · replace h := iteF h hc
      refine zz_iconst (v := 1) C ddR_isDigit_12 (by decide) ?_
      refine zz_goto (tgt := 17) C ddR_isDigit_13 rfl ?_
      refine zz_loc (L1 := []) [] rfl ?_
      exact zBR_isDigit_17 hG C N hD hd E h
theorem ddR_readDigit_0 : decode cR_readDigit 0 = .ok (.aload_n 0, 1) := by decide +kernel
theorem ddR_readDigit_1 : decode cR_readDigit 1 = .ok (.invokevirtual 31, 3) := by decide +kernel
theorem ddR_readDigit_4 : decode cR_readDigit 4 = .ok (.istore_n 1, 1) := by decide +kernel
theorem ddR_readDigit_5 : decode cR_readDigit 5 = .ok (.iload_n 1, 1) := by decide +kernel
theorem ddR_readDigit_6 : decode cR_readDigit 6 = .ok (.invokestatic 41, 3) := by decide +kernel
theorem ddR_readDigit_9 : decode cR_readDigit 9 = .ok (.ifCond .ne 9, 3) := by decide +kernel
theorem ddR_readDigit_12 : decode cR_readDigit 12 = .ok (.aload_n 0, 1) := by decide +kernel
theorem ddR_readDigit_13 : decode cR_readDigit 13 = .ok (.invokevirtual 38, 3) := by decide +kernel
theorem ddR_readDigit_16 : decode cR_readDigit 16 = .ok (.iconst 0, 1) := by decide +kernel
theorem ddR_readDigit_17 : decode cR_readDigit 17 = .ok (.ireturn, 1) := by decide +kernel
theorem ddR_readDigit_18 : decode cR_readDigit 18 = .ok (.aload_n 0, 1) := by decide +kernel
theorem ddR_readDigit_19 : decode cR_readDigit 19 = .ok (.invokevirtual 35, 3) := by decide +kernel
theorem ddR_readDigit_22 : decode cR_readDigit 22 = .ok (.iload_n 1, 1) := by decide +kernel
theorem ddR_readDigit_23 : decode cR_readDigit 23 = .ok (.bipush 48, 2) := by decide +kernel
theorem ddR_readDigit_25 : decode cR_readDigit 25 = .ok (.isub, 1) := by decide +kernel
theorem ddR_readDigit_26 : decode cR_readDigit 26 = .ok (.ireturn, 1) := by decide +kernel
set_option maxHeartbeats 2000000 in
theorem xR_readDigit {G : GXM} {l : Launch} (hG : GokM G) (d : Nat) (hd : 1 ≤ d) {v0 : Nat} {M : Mem} {q : Int32 × Mem} (h : fR_readDigit v0 M = some q) : ExM G l d 0 0 yR_readDigit cR_readDigit 2 (some .int) [.ref v0] M (some (.int q.1)) q.2 := by
  refine ex_of hG (by decide +kernel) (Nat.le_of_ble_eq_true rfl) ?_
  intro X hl C E N hD hn
  show ZM G X 0 [(0, .ref v0)] [] M 0 0
  unfold fR_readDigit at h
  refine zz_aload_n C 0 ddR_readDigit_0 rfl rfl ?_
  obtain ⟨h2, h⟩ := gdN h
  obtain ⟨q1, hq1, h⟩ := bindN h
  refine zz_callV0 (As := []) C ddR_readDigit_1 wd_486 my_R_peek mv_R_peek ⟨_, rfl, rfl⟩ (xR_peek hG (d - 1) (by omega) hq1) (by omega) h2 rfl rfl (Nat.le_of_ble_eq_true rfl) ?_
  refine zz_istore_n (L1 := [(1, .int q1.1), (0, .ref v0)]) C ddR_readDigit_4 rfl N (by decide) rfl ?_
  refine zz_iload_n C 0 ddR_readDigit_5 rfl rfl ?_
  obtain ⟨q3, hq3, h⟩ := bindN h
  refine zz_callS0 (As := [.int q1.1]) C ddR_readDigit_6 wd_487 my_R_isDigit mv_R_isDigit (xR_isDigit hG (d - 1) (by omega) hq3) (by omega) rfl rfl (Nat.le_of_ble_eq_true rfl) ?_
  refine zz_if_ne (tgt := 18) C ddR_readDigit_9 rfl (fun hc => ?_) (fun hc => ?_)
  · replace h := iteF h hc
    refine zz_aload_n C 1 ddR_readDigit_18 rfl rfl ?_
    obtain ⟨h5, h⟩ := gdN h
    obtain ⟨q4, hq4, h⟩ := bindN h
    refine zz_callV0 (As := []) C ddR_readDigit_19 wd_491 my_R_pass mv_R_pass ⟨_, rfl, rfl⟩ (xR_pass hG (d - 1) (by omega) hq4) (by omega) h5 rfl rfl (Nat.le_of_ble_eq_true rfl) ?_
    refine zz_iload_n C 0 ddR_readDigit_22 rfl rfl ?_
    refine zz_bipush (v := 48) C ddR_readDigit_23 (by decide) ?_
    refine zz_isub C ddR_readDigit_25 ?_
    obtain rfl := Option.some.inj h
    exact zz_iret C E ddR_readDigit_26
  · replace h := iteT h hc
    refine zz_aload_n C 1 ddR_readDigit_12 rfl rfl ?_
    obtain ⟨h7, h⟩ := gdN h
    obtain ⟨q6, hq6, h⟩ := bindN h
    refine zz_callV0 (As := []) C ddR_readDigit_13 wd_490 my_R_mark mv_R_mark ⟨_, rfl, rfl⟩ (xR_mark hG (d - 1) (by omega) hq6) (by omega) h7 rfl rfl (Nat.le_of_ble_eq_true rfl) ?_
    refine zz_iconst (v := 0) C ddR_readDigit_16 (by decide) ?_
    obtain rfl := Option.some.inj h
    exact zz_iret C E ddR_readDigit_17
theorem ddR_signHere_0 : decode cR_signHere 0 = .ok (.aload_n 0, 1) := by decide +kernel
theorem ddR_signHere_1 : decode cR_signHere 1 = .ok (.getfield 15, 3) := by decide +kernel
theorem ddR_signHere_4 : decode cR_signHere 4 = .ok (.ifCond .lt 32, 3) := by decide +kernel
theorem ddR_signHere_7 : decode cR_signHere 7 = .ok (.aload_n 0, 1) := by decide +kernel
theorem ddR_signHere_8 : decode cR_signHere 8 = .ok (.getfield 15, 3) := by decide +kernel
theorem ddR_signHere_11 : decode cR_signHere 11 = .ok (.aload_n 0, 1) := by decide +kernel
theorem ddR_signHere_12 : decode cR_signHere 12 = .ok (.getfield 9, 3) := by decide +kernel
theorem ddR_signHere_15 : decode cR_signHere 15 = .ok (.getfield 22, 3) := by decide +kernel
theorem ddR_signHere_18 : decode cR_signHere 18 = .ok (.if_icmp .ge 18, 3) := by decide +kernel
theorem ddR_signHere_21 : decode cR_signHere 21 = .ok (.aload_n 0, 1) := by decide +kernel
theorem ddR_signHere_22 : decode cR_signHere 22 = .ok (.getfield 9, 3) := by decide +kernel
theorem ddR_signHere_25 : decode cR_signHere 25 = .ok (.getfield 27, 3) := by decide +kernel
theorem ddR_signHere_28 : decode cR_signHere 28 = .ok (.aload_n 0, 1) := by decide +kernel
theorem ddR_signHere_29 : decode cR_signHere 29 = .ok (.getfield 15, 3) := by decide +kernel
theorem ddR_signHere_32 : decode cR_signHere 32 = .ok (.iaload, 1) := by decide +kernel
theorem ddR_signHere_33 : decode cR_signHere 33 = .ok (.goto 4, 3) := by decide +kernel
theorem ddR_signHere_36 : decode cR_signHere 36 = .ok (.iconst (-1), 1) := by decide +kernel
theorem ddR_signHere_37 : decode cR_signHere 37 = .ok (.ireturn, 1) := by decide +kernel
set_option maxHeartbeats 2000000 in
theorem zBR_signHere_37 {G : GXM} {X : CxM} (hG : GokM G) (C : CoM G X cR_signHere "HomeFreed$Reader") (N : mLM X = 1) {d : Nat} (hD : dpM X = d) (hd : 0 ≤ d)  {q : Int32 × Mem} (E : EnM G X (some .int) (some (.int q.1)) q.2 0 0) {w0 : Int32} {M : Mem} (h : BR_signHere_37 w0 M = some q) : ZM G X 37 [] [.int w0] M 0 0 := by
  unfold BR_signHere_37 at h
  obtain rfl := Option.some.inj h
  exact zz_iret C E ddR_signHere_37
set_option maxHeartbeats 2000000 in
theorem zBR_signHere_36 {G : GXM} {X : CxM} (hG : GokM G) (C : CoM G X cR_signHere "HomeFreed$Reader") (N : mLM X = 1) {d : Nat} (hD : dpM X = d) (hd : 0 ≤ d)  {q : Int32 × Mem} (E : EnM G X (some .int) (some (.int q.1)) q.2 0 0) {M : Mem} (h : BR_signHere_36 M = some q) : ZM G X 36 [] [] M 0 0 := by
  unfold BR_signHere_36 at h
  refine zz_iconst (v := (-1)) C ddR_signHere_36 (by decide) ?_
  exact zBR_signHere_37 hG C N hD hd E h
set_option maxHeartbeats 2000000 in
theorem xR_signHere {G : GXM} {l : Launch} (hG : GokM G) (d : Nat) (hd : 0 ≤ d) {v0 : Nat} {M : Mem} {q : Int32 × Mem} (h : fR_signHere v0 M = some q) : ExM G l d 0 0 yR_signHere cR_signHere 1 (some .int) [.ref v0] M (some (.int q.1)) q.2 := by
  refine ex_of hG (by decide +kernel) (Nat.le_of_ble_eq_true rfl) ?_
  intro X hl C E N hD hn
  show ZM G X 0 [(0, .ref v0)] [] M 0 0
  unfold fR_signHere at h
  refine zz_aload_n C 0 ddR_signHere_0 rfl rfl ?_
  obtain ⟨h1, h⟩ := gdN h
  refine zz_geti C ddR_signHere_1 fl_R_15 rfl h1 ?_
  refine zz_if_lt (tgt := 36) C ddR_signHere_4 rfl (fun hc => ?_) (fun hc => ?_)
  · replace h := iteT h hc
    refine zz_loc (L1 := []) [] rfl ?_
    exact zBR_signHere_36 hG C N hD hd E h
  · replace h := iteF h hc
    refine zz_aload_n C 0 ddR_signHere_7 rfl rfl ?_
    refine zz_geti C ddR_signHere_8 fl_R_15 rfl h1 ?_
    refine zz_aload_n C 0 ddR_signHere_11 rfl rfl ?_
    obtain ⟨h2, h⟩ := gdN h
    refine zz_getr C ddR_signHere_12 fl_R_9 rfl h1 (of_decide_eq_true h2) ?_
    obtain ⟨h3, h⟩ := gdN h
    refine zz_geti C ddR_signHere_15 fl_R_22 rfl h3 ?_
    refine zz_icmp_ge (tgt := 36) C ddR_signHere_18 rfl (fun hc => ?_) (fun hc => ?_)
    · replace h := iteT h hc
      refine zz_loc (L1 := []) [] rfl ?_
      exact zBR_signHere_36 hG C N hD hd E h
    · replace h := iteF h hc
      refine zz_aload_n C 0 ddR_signHere_21 rfl rfl ?_
      refine zz_getr C ddR_signHere_22 fl_R_9 rfl h1 (of_decide_eq_true h2) ?_
      obtain ⟨h4, h⟩ := gdN h
      refine zz_getr C ddR_signHere_25 fl_R_27 rfl h3 (of_decide_eq_true h4) ?_
      refine zz_aload_n C 0 ddR_signHere_28 rfl rfl ?_
      refine zz_geti C ddR_signHere_29 fl_R_15 rfl h1 ?_
      obtain ⟨h5, h⟩ := gdN h
      refine zz_iaload C ddR_signHere_32 h5 ?_
      refine zz_goto (tgt := 37) C ddR_signHere_33 rfl ?_
      refine zz_loc (L1 := []) [] rfl ?_
      exact zBR_signHere_37 hG C N hD hd E h
theorem ddR_readNumber_0 : decode cR_readNumber 0 = .ok (.aload_n 0, 1) := by decide +kernel
theorem ddR_readNumber_1 : decode cR_readNumber 1 = .ok (.invokevirtual 45, 3) := by decide +kernel
theorem ddR_readNumber_4 : decode cR_readNumber 4 = .ok (.istore_n 3, 1) := by decide +kernel
theorem ddR_readNumber_5 : decode cR_readNumber 5 = .ok (.aload_n 0, 1) := by decide +kernel
theorem ddR_readNumber_6 : decode cR_readNumber 6 = .ok (.invokevirtual 48, 3) := by decide +kernel
theorem ddR_readNumber_9 : decode cR_readNumber 9 = .ok (.ifCond .eq 5, 3) := by decide +kernel
theorem ddR_readNumber_12 : decode cR_readNumber 12 = .ok (.iload_n 1, 1) := by decide +kernel
theorem ddR_readNumber_13 : decode cR_readNumber 13 = .ok (.ireturn, 1) := by decide +kernel
theorem ddR_readNumber_14 : decode cR_readNumber 14 = .ok (.aload_n 0, 1) := by decide +kernel
theorem ddR_readNumber_15 : decode cR_readNumber 15 = .ok (.invokevirtual 52, 3) := by decide +kernel
theorem ddR_readNumber_18 : decode cR_readNumber 18 = .ok (.invokestatic 41, 3) := by decide +kernel
theorem ddR_readNumber_21 : decode cR_readNumber 21 = .ok (.ifCond .eq 36, 3) := by decide +kernel
theorem ddR_readNumber_24 : decode cR_readNumber 24 = .ok (.iload_n 3, 1) := by decide +kernel
theorem ddR_readNumber_25 : decode cR_readNumber 25 = .ok (.bipush 10, 2) := by decide +kernel
theorem ddR_readNumber_27 : decode cR_readNumber 27 = .ok (.imul, 1) := by decide +kernel
theorem ddR_readNumber_28 : decode cR_readNumber 28 = .ok (.aload_n 0, 1) := by decide +kernel
theorem ddR_readNumber_29 : decode cR_readNumber 29 = .ok (.invokevirtual 52, 3) := by decide +kernel
theorem ddR_readNumber_32 : decode cR_readNumber 32 = .ok (.iadd, 1) := by decide +kernel
theorem ddR_readNumber_33 : decode cR_readNumber 33 = .ok (.bipush 48, 2) := by decide +kernel
theorem ddR_readNumber_35 : decode cR_readNumber 35 = .ok (.isub, 1) := by decide +kernel
theorem ddR_readNumber_36 : decode cR_readNumber 36 = .ok (.istore_n 3, 1) := by decide +kernel
theorem ddR_readNumber_37 : decode cR_readNumber 37 = .ok (.aload_n 0, 1) := by decide +kernel
theorem ddR_readNumber_38 : decode cR_readNumber 38 = .ok (.invokevirtual 35, 3) := by decide +kernel
theorem ddR_readNumber_41 : decode cR_readNumber 41 = .ok (.aload_n 0, 1) := by decide +kernel
theorem ddR_readNumber_42 : decode cR_readNumber 42 = .ok (.invokevirtual 52, 3) := by decide +kernel
theorem ddR_readNumber_45 : decode cR_readNumber 45 = .ok (.invokestatic 41, 3) := by decide +kernel
theorem ddR_readNumber_48 : decode cR_readNumber 48 = .ok (.ifCond .eq 9, 3) := by decide +kernel
theorem ddR_readNumber_51 : decode cR_readNumber 51 = .ok (.aload_n 0, 1) := by decide +kernel
theorem ddR_readNumber_52 : decode cR_readNumber 52 = .ok (.invokevirtual 38, 3) := by decide +kernel
theorem ddR_readNumber_55 : decode cR_readNumber 55 = .ok (.iload_n 1, 1) := by decide +kernel
theorem ddR_readNumber_56 : decode cR_readNumber 56 = .ok (.ireturn, 1) := by decide +kernel
theorem ddR_readNumber_57 : decode cR_readNumber 57 = .ok (.iload_n 3, 1) := by decide +kernel
theorem ddR_readNumber_58 : decode cR_readNumber 58 = .ok (.iload_n 1, 1) := by decide +kernel
theorem ddR_readNumber_59 : decode cR_readNumber 59 = .ok (.if_icmp .lt 8, 3) := by decide +kernel
theorem ddR_readNumber_62 : decode cR_readNumber 62 = .ok (.iload_n 3, 1) := by decide +kernel
theorem ddR_readNumber_63 : decode cR_readNumber 63 = .ok (.iload_n 2, 1) := by decide +kernel
theorem ddR_readNumber_64 : decode cR_readNumber 64 = .ok (.if_icmp .le 19, 3) := by decide +kernel
theorem ddR_readNumber_67 : decode cR_readNumber 67 = .ok (.aload_n 0, 1) := by decide +kernel
theorem ddR_readNumber_68 : decode cR_readNumber 68 = .ok (.dup, 1) := by decide +kernel
theorem ddR_readNumber_69 : decode cR_readNumber 69 = .ok (.getfield 15, 3) := by decide +kernel
theorem ddR_readNumber_72 : decode cR_readNumber 72 = .ok (.iconst 1, 1) := by decide +kernel
theorem ddR_readNumber_73 : decode cR_readNumber 73 = .ok (.isub, 1) := by decide +kernel
theorem ddR_readNumber_74 : decode cR_readNumber 74 = .ok (.putfield 15, 3) := by decide +kernel
theorem ddR_readNumber_77 : decode cR_readNumber 77 = .ok (.aload_n 0, 1) := by decide +kernel
theorem ddR_readNumber_78 : decode cR_readNumber 78 = .ok (.invokevirtual 38, 3) := by decide +kernel
theorem ddR_readNumber_81 : decode cR_readNumber 81 = .ok (.iload_n 1, 1) := by decide +kernel
theorem ddR_readNumber_82 : decode cR_readNumber 82 = .ok (.ireturn, 1) := by decide +kernel
theorem ddR_readNumber_83 : decode cR_readNumber 83 = .ok (.iload_n 3, 1) := by decide +kernel
theorem ddR_readNumber_84 : decode cR_readNumber 84 = .ok (.ireturn, 1) := by decide +kernel
set_option maxHeartbeats 2000000 in
theorem zBR_readNumber_67 {G : GXM} {X : CxM} (hG : GokM G) (C : CoM G X cR_readNumber "HomeFreed$Reader") (N : mLM X = 4) {d : Nat} (hD : dpM X = d) (hd : 2 ≤ d)  {q : Int32 × Mem} (E : EnM G X (some .int) (some (.int q.1)) q.2 0 0) {v0 : Nat} {v1 : Int32} {M : Mem} (h : BR_readNumber_67 v0 v1 M = some q) : ZM G X 67 [(0, .ref v0), (1, .int v1)] [] M 0 0 := by
  unfold BR_readNumber_67 at h
  refine zz_aload_n C 0 ddR_readNumber_67 rfl rfl ?_
  refine zz_dup C ddR_readNumber_68 rfl ?_
  obtain ⟨h1, h⟩ := gdN h
  refine zz_geti C ddR_readNumber_69 fl_R_15 rfl h1 ?_
  refine zz_iconst (v := 1) C ddR_readNumber_72 (by decide) ?_
  refine zz_isub C ddR_readNumber_73 ?_
  refine zz_puti C ddR_readNumber_74 fl_R_15 rfl rfl rfl h1 ?_
  refine zz_aload_n C 0 ddR_readNumber_77 rfl rfl ?_
  obtain ⟨q2, hq2, h⟩ := bindN h
  refine zz_callV0 (As := []) C ddR_readNumber_78 wd_490 my_R_mark mv_R_mark ⟨_, rfl, rfl⟩ (xR_mark hG (d - 1) (by omega) hq2) (by omega) h1 rfl rfl (Nat.le_of_ble_eq_true rfl) ?_
  refine zz_iload_n C 1 ddR_readNumber_81 rfl rfl ?_
  obtain rfl := Option.some.inj h
  exact zz_iret C E ddR_readNumber_82
set_option maxHeartbeats 2000000 in
theorem zBR_readNumber_57 {G : GXM} {X : CxM} (hG : GokM G) (C : CoM G X cR_readNumber "HomeFreed$Reader") (N : mLM X = 4) {d : Nat} (hD : dpM X = d) (hd : 2 ≤ d)  {q : Int32 × Mem} (E : EnM G X (some .int) (some (.int q.1)) q.2 0 0) {v0 : Nat} {v1 : Int32} {v2 : Int32} {v3 : Int32} {M : Mem} (h : BR_readNumber_57 v0 v1 v2 v3 M = some q) : ZM G X 57 [(0, .ref v0), (1, .int v1), (2, .int v2), (3, .int v3)] [] M 0 0 := by
  unfold BR_readNumber_57 at h
  refine zz_iload_n C 3 ddR_readNumber_57 rfl rfl ?_
  refine zz_iload_n C 1 ddR_readNumber_58 rfl rfl ?_
  refine zz_icmp_lt (tgt := 67) C ddR_readNumber_59 rfl (fun hc => ?_) (fun hc => ?_)
  · replace h := iteT h hc
    refine zz_loc (L1 := [(0, .ref v0), (1, .int v1)]) [0, 1] rfl ?_
    exact zBR_readNumber_67 hG C N hD hd E h
  · replace h := iteF h hc
    refine zz_iload_n C 3 ddR_readNumber_62 rfl rfl ?_
    refine zz_iload_n C 2 ddR_readNumber_63 rfl rfl ?_
    refine zz_icmp_le (tgt := 83) C ddR_readNumber_64 rfl (fun hc => ?_) (fun hc => ?_)
    · replace h := iteT h hc
      refine zz_iload_n C 3 ddR_readNumber_83 rfl rfl ?_
      obtain rfl := Option.some.inj h
      exact zz_iret C E ddR_readNumber_84
    · replace h := iteF h hc
      refine zz_loc (L1 := [(0, .ref v0), (1, .int v1)]) [0, 1] rfl ?_
      exact zBR_readNumber_67 hG C N hD hd E h
set_option maxHeartbeats 2000000 in
theorem xR_readNumber {G : GXM} {l : Launch} (hG : GokM G) (d : Nat) (hd : 2 ≤ d) {v0 : Nat} {v1 : Int32} {v2 : Int32} {M : Mem} {q : Int32 × Mem} (h : fR_readNumber v0 v1 v2 M = some q) : ExM G l d 0 0 yR_readNumber cR_readNumber 4 (some .int) [.ref v0, .int v1, .int v2] M (some (.int q.1)) q.2 := by
  refine ex_of hG (by decide +kernel) (Nat.le_of_ble_eq_true rfl) ?_
  intro X hl C E N hD hn
  show ZM G X 0 [(0, .ref v0), (1, .int v1), (2, .int v2)] [] M 0 0
  unfold fR_readNumber at h
  refine zz_aload_n C 0 ddR_readNumber_0 rfl rfl ?_
  obtain ⟨h2, h⟩ := gdN h
  obtain ⟨q1, hq1, h⟩ := bindN h
  refine zz_callV0 (As := []) C ddR_readNumber_1 wd_482 my_R_readDigit mv_R_readDigit ⟨_, rfl, rfl⟩ (xR_readDigit hG (d - 1) (by omega) hq1) (by omega) h2 rfl rfl (Nat.le_of_ble_eq_true rfl) ?_
  refine zz_istore_n (L1 := [(3, .int q1.1), (0, .ref v0), (1, .int v1), (2, .int v2)]) C ddR_readNumber_4 rfl N (by decide) rfl ?_
  refine zz_aload_n C 1 ddR_readNumber_5 rfl rfl ?_
  obtain ⟨h4, h⟩ := gdN h
  obtain ⟨q3, hq3, h⟩ := bindN h
  refine zz_callV0 (As := []) C ddR_readNumber_6 wd_492 my_R_isWrong mv_R_isWrong ⟨_, rfl, rfl⟩ (xR_isWrong hG (d - 1) (by omega) hq3) (by omega) h4 rfl rfl (Nat.le_of_ble_eq_true rfl) ?_
  refine zz_if_eq (tgt := 14) C ddR_readNumber_9 rfl (fun hc => ?_) (fun hc => ?_)
  · replace h := iteT h hc
    refine zz_aload_n C 1 ddR_readNumber_14 rfl rfl ?_
    obtain ⟨h6, h⟩ := gdN h
    obtain ⟨q5, hq5, h⟩ := bindN h
    refine zz_callV0 (As := []) C ddR_readNumber_15 wd_493 my_R_signHere mv_R_signHere ⟨_, rfl, rfl⟩ (xR_signHere hG (d - 1) (by omega) hq5) (by omega) h6 rfl rfl (Nat.le_of_ble_eq_true rfl) ?_
    obtain ⟨q7, hq7, h⟩ := bindN h
    refine zz_callS0 (As := [.int q5.1]) C ddR_readNumber_18 wd_487 my_R_isDigit mv_R_isDigit (xR_isDigit hG (d - 1) (by omega) hq7) (by omega) rfl rfl (Nat.le_of_ble_eq_true rfl) ?_
    refine zz_if_eq (tgt := 57) C ddR_readNumber_21 rfl (fun hc => ?_) (fun hc => ?_)
    · replace h := iteT h hc
      refine zz_loc (L1 := [(0, .ref v0), (1, .int v1), (2, .int v2), (3, .int q1.1)]) [1, 2, 3, 0] rfl ?_
      exact zBR_readNumber_57 hG C N hD hd E h
    · replace h := iteF h hc
      refine zz_iload_n C 0 ddR_readNumber_24 rfl rfl ?_
      refine zz_bipush (v := 10) C ddR_readNumber_25 (by decide) ?_
      refine zz_imul C ddR_readNumber_27 ?_
      refine zz_aload_n C 1 ddR_readNumber_28 rfl rfl ?_
      obtain ⟨h9, h⟩ := gdN h
      obtain ⟨q8, hq8, h⟩ := bindN h
      refine zz_callV0 (As := []) C ddR_readNumber_29 wd_493 my_R_signHere mv_R_signHere ⟨_, rfl, rfl⟩ (xR_signHere hG (d - 1) (by omega) hq8) (by omega) h9 rfl rfl (Nat.le_of_ble_eq_true rfl) ?_
      refine zz_iadd C ddR_readNumber_32 ?_
      refine zz_bipush (v := 48) C ddR_readNumber_33 (by decide) ?_
      refine zz_isub C ddR_readNumber_35 ?_
      refine zz_istore_n (L1 := [(3, .int (((q1.1 * 10) + q8.1) - 48)), (0, .ref v0), (1, .int v1), (2, .int v2)]) C ddR_readNumber_36 rfl N (by decide) rfl ?_
      refine zz_aload_n C 1 ddR_readNumber_37 rfl rfl ?_
      obtain ⟨h11, h⟩ := gdN h
      obtain ⟨q10, hq10, h⟩ := bindN h
      refine zz_callV0 (As := []) C ddR_readNumber_38 wd_491 my_R_pass mv_R_pass ⟨_, rfl, rfl⟩ (xR_pass hG (d - 1) (by omega) hq10) (by omega) h11 rfl rfl (Nat.le_of_ble_eq_true rfl) ?_
      refine zz_aload_n C 1 ddR_readNumber_41 rfl rfl ?_
      obtain ⟨h13, h⟩ := gdN h
      obtain ⟨q12, hq12, h⟩ := bindN h
      refine zz_callV0 (As := []) C ddR_readNumber_42 wd_493 my_R_signHere mv_R_signHere ⟨_, rfl, rfl⟩ (xR_signHere hG (d - 1) (by omega) hq12) (by omega) h13 rfl rfl (Nat.le_of_ble_eq_true rfl) ?_
      obtain ⟨q14, hq14, h⟩ := bindN h
      refine zz_callS0 (As := [.int q12.1]) C ddR_readNumber_45 wd_487 my_R_isDigit mv_R_isDigit (xR_isDigit hG (d - 1) (by omega) hq14) (by omega) rfl rfl (Nat.le_of_ble_eq_true rfl) ?_
      refine zz_if_eq (tgt := 57) C ddR_readNumber_48 rfl (fun hc => ?_) (fun hc => ?_)
      · replace h := iteT h hc
        refine zz_loc (L1 := [(0, .ref v0), (1, .int v1), (2, .int v2), (3, .int (((q1.1 * 10) + q8.1) - 48))]) [1, 2, 3, 0] rfl ?_
        exact zBR_readNumber_57 hG C N hD hd E h
      · replace h := iteF h hc
        refine zz_aload_n C 1 ddR_readNumber_51 rfl rfl ?_
        obtain ⟨h16, h⟩ := gdN h
        obtain ⟨q15, hq15, h⟩ := bindN h
        refine zz_callV0 (As := []) C ddR_readNumber_52 wd_490 my_R_mark mv_R_mark ⟨_, rfl, rfl⟩ (xR_mark hG (d - 1) (by omega) hq15) (by omega) h16 rfl rfl (Nat.le_of_ble_eq_true rfl) ?_
        refine zz_iload_n C 2 ddR_readNumber_55 rfl rfl ?_
        obtain rfl := Option.some.inj h
        exact zz_iret C E ddR_readNumber_56
  · replace h := iteF h hc
    refine zz_iload_n C 2 ddR_readNumber_12 rfl rfl ?_
    obtain rfl := Option.some.inj h
    exact zz_iret C E ddR_readNumber_13
theorem ddR_expect_0 : decode cR_expect 0 = .ok (.aload_n 0, 1) := by decide +kernel
theorem ddR_expect_1 : decode cR_expect 1 = .ok (.invokevirtual 31, 3) := by decide +kernel
theorem ddR_expect_4 : decode cR_expect 4 = .ok (.iload_n 1, 1) := by decide +kernel
theorem ddR_expect_5 : decode cR_expect 5 = .ok (.if_icmp .ne 10, 3) := by decide +kernel
theorem ddR_expect_8 : decode cR_expect 8 = .ok (.aload_n 0, 1) := by decide +kernel
theorem ddR_expect_9 : decode cR_expect 9 = .ok (.invokevirtual 35, 3) := by decide +kernel
theorem ddR_expect_12 : decode cR_expect 12 = .ok (.goto 7, 3) := by decide +kernel
theorem ddR_expect_15 : decode cR_expect 15 = .ok (.aload_n 0, 1) := by decide +kernel
theorem ddR_expect_16 : decode cR_expect 16 = .ok (.invokevirtual 38, 3) := by decide +kernel
theorem ddR_expect_19 : decode cR_expect 19 = .ok (.return_, 1) := by decide +kernel
set_option maxHeartbeats 2000000 in
theorem zBR_expect_19 {G : GXM} {X : CxM} (hG : GokM G) (C : CoM G X cR_expect "HomeFreed$Reader") (N : mLM X = 2) {d : Nat} (hD : dpM X = d) (hd : 1 ≤ d)  {q : Mem} (E : EnM G X none none q 0 0) {M : Mem} (h : BR_expect_19 M = some q) : ZM G X 19 [] [] M 0 0 := by
  unfold BR_expect_19 at h
  obtain rfl := Option.some.inj h
  exact zz_vret C E ddR_expect_19
set_option maxHeartbeats 2000000 in
theorem xR_expect {G : GXM} {l : Launch} (hG : GokM G) (d : Nat) (hd : 1 ≤ d) {v0 : Nat} {v1 : Int32} {M : Mem} {q : Mem} (h : fR_expect v0 v1 M = some q) : ExM G l d 0 0 yR_expect cR_expect 2 none [.ref v0, .int v1] M none q := by
  refine ex_of hG (by decide +kernel) (Nat.le_of_ble_eq_true rfl) ?_
  intro X hl C E N hD hn
  show ZM G X 0 [(0, .ref v0), (1, .int v1)] [] M 0 0
  unfold fR_expect at h
  refine zz_aload_n C 0 ddR_expect_0 rfl rfl ?_
  obtain ⟨h2, h⟩ := gdN h
  obtain ⟨q1, hq1, h⟩ := bindN h
  refine zz_callV0 (As := []) C ddR_expect_1 wd_486 my_R_peek mv_R_peek ⟨_, rfl, rfl⟩ (xR_peek hG (d - 1) (by omega) hq1) (by omega) h2 rfl rfl (Nat.le_of_ble_eq_true rfl) ?_
  refine zz_iload_n C 1 ddR_expect_4 rfl rfl ?_
  refine zz_icmp_ne (tgt := 15) C ddR_expect_5 rfl (fun hc => ?_) (fun hc => ?_)
  · replace h := iteF h hc
    refine zz_aload_n C 0 ddR_expect_15 rfl rfl ?_
    obtain ⟨h4, h⟩ := gdN h
    obtain ⟨q3, hq3, h⟩ := bindN h
    refine zz_callV0 (As := []) C ddR_expect_16 wd_490 my_R_mark mv_R_mark ⟨_, rfl, rfl⟩ (xR_mark hG (d - 1) (by omega) hq3) (by omega) h4 rfl rfl (Nat.le_of_ble_eq_true rfl) ?_
    refine zz_loc (L1 := []) [] rfl ?_
    exact zBR_expect_19 hG C N hD hd E h
  · replace h := iteT h hc
    refine zz_aload_n C 0 ddR_expect_8 rfl rfl ?_
    obtain ⟨h6, h⟩ := gdN h
    obtain ⟨q5, hq5, h⟩ := bindN h
    refine zz_callV0 (As := []) C ddR_expect_9 wd_491 my_R_pass mv_R_pass ⟨_, rfl, rfl⟩ (xR_pass hG (d - 1) (by omega) hq5) (by omega) h6 rfl rfl (Nat.le_of_ble_eq_true rfl) ?_
    refine zz_goto (tgt := 19) C ddR_expect_12 rfl ?_
    refine zz_loc (L1 := []) [] rfl ?_
    exact zBR_expect_19 hG C N hD hd E h
theorem ddU_sizesFit_0 : decode cU_sizesFit 0 = .ok (.iconst 1, 1) := by decide +kernel
theorem ddU_sizesFit_1 : decode cU_sizesFit 1 = .ok (.istore_n 1, 1) := by decide +kernel
theorem ddU_sizesFit_2 : decode cU_sizesFit 2 = .ok (.iload_n 1, 1) := by decide +kernel
theorem ddU_sizesFit_3 : decode cU_sizesFit 3 = .ok (.aload_n 0, 1) := by decide +kernel
theorem ddU_sizesFit_4 : decode cU_sizesFit 4 = .ok (.getfield 18, 3) := by decide +kernel
theorem ddU_sizesFit_7 : decode cU_sizesFit 7 = .ok (.if_icmp .ge 28, 3) := by decide +kernel
theorem ddU_sizesFit_10 : decode cU_sizesFit 10 = .ok (.aload_n 0, 1) := by decide +kernel
theorem ddU_sizesFit_11 : decode cU_sizesFit 11 = .ok (.getfield 15, 3) := by decide +kernel
theorem ddU_sizesFit_14 : decode cU_sizesFit 14 = .ok (.iload_n 1, 1) := by decide +kernel
theorem ddU_sizesFit_15 : decode cU_sizesFit 15 = .ok (.iaload, 1) := by decide +kernel
theorem ddU_sizesFit_16 : decode cU_sizesFit 16 = .ok (.aload_n 0, 1) := by decide +kernel
theorem ddU_sizesFit_17 : decode cU_sizesFit 17 = .ok (.getfield 15, 3) := by decide +kernel
theorem ddU_sizesFit_20 : decode cU_sizesFit 20 = .ok (.iload_n 1, 1) := by decide +kernel
theorem ddU_sizesFit_21 : decode cU_sizesFit 21 = .ok (.iconst 1, 1) := by decide +kernel
theorem ddU_sizesFit_22 : decode cU_sizesFit 22 = .ok (.isub, 1) := by decide +kernel
theorem ddU_sizesFit_23 : decode cU_sizesFit 23 = .ok (.iaload, 1) := by decide +kernel
theorem ddU_sizesFit_24 : decode cU_sizesFit 24 = .ok (.if_icmp .gt 5, 3) := by decide +kernel
theorem ddU_sizesFit_27 : decode cU_sizesFit 27 = .ok (.iconst 0, 1) := by decide +kernel
theorem ddU_sizesFit_28 : decode cU_sizesFit 28 = .ok (.ireturn, 1) := by decide +kernel
theorem ddU_sizesFit_29 : decode cU_sizesFit 29 = .ok (.iinc 1 1, 3) := by decide +kernel
theorem ddU_sizesFit_32 : decode cU_sizesFit 32 = .ok (.goto (-30), 3) := by decide +kernel
theorem ddU_sizesFit_35 : decode cU_sizesFit 35 = .ok (.aload_n 0, 1) := by decide +kernel
theorem ddU_sizesFit_36 : decode cU_sizesFit 36 = .ok (.getfield 18, 3) := by decide +kernel
theorem ddU_sizesFit_39 : decode cU_sizesFit 39 = .ok (.ifCond .le 27, 3) := by decide +kernel
theorem ddU_sizesFit_42 : decode cU_sizesFit 42 = .ok (.aload_n 0, 1) := by decide +kernel
theorem ddU_sizesFit_43 : decode cU_sizesFit 43 = .ok (.getfield 15, 3) := by decide +kernel
theorem ddU_sizesFit_46 : decode cU_sizesFit 46 = .ok (.aload_n 0, 1) := by decide +kernel
theorem ddU_sizesFit_47 : decode cU_sizesFit 47 = .ok (.getfield 18, 3) := by decide +kernel
theorem ddU_sizesFit_50 : decode cU_sizesFit 50 = .ok (.iconst 1, 1) := by decide +kernel
theorem ddU_sizesFit_51 : decode cU_sizesFit 51 = .ok (.isub, 1) := by decide +kernel
theorem ddU_sizesFit_52 : decode cU_sizesFit 52 = .ok (.iaload, 1) := by decide +kernel
theorem ddU_sizesFit_53 : decode cU_sizesFit 53 = .ok (.aload_n 0, 1) := by decide +kernel
theorem ddU_sizesFit_54 : decode cU_sizesFit 54 = .ok (.getfield 9, 3) := by decide +kernel
theorem ddU_sizesFit_57 : decode cU_sizesFit 57 = .ok (.iconst 2, 1) := by decide +kernel
theorem ddU_sizesFit_58 : decode cU_sizesFit 58 = .ok (.iaload, 1) := by decide +kernel
theorem ddU_sizesFit_59 : decode cU_sizesFit 59 = .ok (.if_icmp .gt 7, 3) := by decide +kernel
theorem ddU_sizesFit_62 : decode cU_sizesFit 62 = .ok (.iconst 1, 1) := by decide +kernel
theorem ddU_sizesFit_63 : decode cU_sizesFit 63 = .ok (.goto 4, 3) := by decide +kernel
theorem ddU_sizesFit_66 : decode cU_sizesFit 66 = .ok (.iconst 0, 1) := by decide +kernel
theorem ddU_sizesFit_67 : decode cU_sizesFit 67 = .ok (.ireturn, 1) := by decide +kernel
set_option maxHeartbeats 2000000 in
theorem zBU_sizesFit_67 {G : GXM} {X : CxM} (hG : GokM G) (C : CoM G X cU_sizesFit "HomeFreed$Rules") (N : mLM X = 2) {d : Nat} (hD : dpM X = d) (hd : 0 ≤ d)  {q : Int32 × Mem} (E : EnM G X (some .boolean) (some (.int q.1)) q.2 0 0) {w0 : Int32} {M : Mem} (h : BU_sizesFit_67 w0 M = some q) : ZM G X 67 [] [.int w0] M 0 0 := by
  unfold BU_sizesFit_67 at h
  obtain ⟨h1, h⟩ := gdN h
  obtain rfl := Option.some.inj h
  exact zz_zret C (of_decide_eq_true h1) E ddU_sizesFit_67
set_option maxHeartbeats 2000000 in
theorem zBU_sizesFit_66 {G : GXM} {X : CxM} (hG : GokM G) (C : CoM G X cU_sizesFit "HomeFreed$Rules") (N : mLM X = 2) {d : Nat} (hD : dpM X = d) (hd : 0 ≤ d)  {q : Int32 × Mem} (E : EnM G X (some .boolean) (some (.int q.1)) q.2 0 0) {M : Mem} (h : BU_sizesFit_66 M = some q) : ZM G X 66 [] [] M 0 0 := by
  unfold BU_sizesFit_66 at h
  refine zz_iconst (v := 0) C ddU_sizesFit_66 (by decide) ?_
  exact zBU_sizesFit_67 hG C N hD hd E h
set_option maxHeartbeats 2000000 in
theorem zBU_sizesFit_2 {G : GXM} {X : CxM} (hG : GokM G) (C : CoM G X cU_sizesFit "HomeFreed$Rules") (N : mLM X = 2) {d : Nat} (hD : dpM X = d) (hd : 0 ≤ d) {v0 : Nat} {K : Nat → Int32 → Mem → Option ((Int32 × Mem) ⊕ (Mem))} {q : (Int32 × Mem) ⊕ (Mem)} (hK : ∀ (v1 : Int32) (M : Mem), K v0 v1 M = some q → ZM G X 2 [(0, .ref v0), (1, .int v1)] [] M 0 0) (hr : ∀ r : Int32 × Mem, q = .inl r → EnM G X (some .boolean) (some (.int r.1)) r.2 0 0) (hx0 : ∀ y : Mem, q = (.inr y) → ZM G X 35 [(0, .ref v0)] [] y 0 0) {v1 : Int32} {M : Mem} (h : BU_sizesFit_2 K v0 v1 M = some q) : ZM G X 2 [(0, .ref v0), (1, .int v1)] [] M 0 0 := by
  unfold BU_sizesFit_2 at h
  refine zz_iload_n C 1 ddU_sizesFit_2 rfl rfl ?_
  refine zz_aload_n C 0 ddU_sizesFit_3 rfl rfl ?_
  obtain ⟨h1, h⟩ := gdN h
  refine zz_geti C ddU_sizesFit_4 fl_U_18 rfl h1 ?_
  refine zz_icmp_ge (tgt := 35) C ddU_sizesFit_7 rfl (fun hc => ?_) (fun hc => ?_)
  · replace h := iteT h hc
    refine zz_loc (L1 := [(0, .ref v0)]) [0] rfl ?_
    exact hx0 _ (Option.some.inj h).symm
  · replace h := iteF h hc
    refine zz_aload_n C 0 ddU_sizesFit_10 rfl rfl ?_
    obtain ⟨h2, h⟩ := gdN h
    refine zz_getr C ddU_sizesFit_11 fl_U_15 rfl h1 (of_decide_eq_true h2) ?_
    refine zz_iload_n C 1 ddU_sizesFit_14 rfl rfl ?_
    obtain ⟨h3, h⟩ := gdN h
    refine zz_iaload C ddU_sizesFit_15 h3 ?_
    refine zz_aload_n C 0 ddU_sizesFit_16 rfl rfl ?_
    refine zz_getr C ddU_sizesFit_17 fl_U_15 rfl h1 (of_decide_eq_true h2) ?_
    refine zz_iload_n C 1 ddU_sizesFit_20 rfl rfl ?_
    refine zz_iconst (v := 1) C ddU_sizesFit_21 (by decide) ?_
    refine zz_isub C ddU_sizesFit_22 ?_
    obtain ⟨h4, h⟩ := gdN h
    refine zz_iaload C ddU_sizesFit_23 h4 ?_
    refine zz_icmp_gt (tgt := 29) C ddU_sizesFit_24 rfl (fun hc => ?_) (fun hc => ?_)
    · replace h := iteT h hc
      refine zz_iinc (v := v1 + 1) (L1 := [(1, .int (v1 + 1)), (0, .ref v0)]) C 1 ddU_sizesFit_29 rfl rfl N (by decide) rfl ?_
      refine zz_goto (tgt := 2) C ddU_sizesFit_32 rfl ?_
      refine zz_loc (L1 := [(0, .ref v0), (1, .int (v1 + 1))]) [1, 0] rfl ?_
      exact hK _ _ h
    · replace h := iteF h hc
      refine zz_iconst (v := 0) C ddU_sizesFit_27 (by decide) ?_
      exact zz_zret C (by decide) (hr _ (Option.some.inj h).symm) ddU_sizesFit_28
set_option maxHeartbeats 2000000 in
theorem zLU_sizesFit_2 {G : GXM} {X : CxM} (hG : GokM G) (C : CoM G X cU_sizesFit "HomeFreed$Rules") (N : mLM X = 2) {d : Nat} (hD : dpM X = d) (hd : 0 ≤ d) {v0 : Nat} {q : (Int32 × Mem) ⊕ (Mem)} : ∀ (f : Nat) (v1 : Int32) (M : Mem), LU_sizesFit_2 f v0 v1 M = some q → (hr : ∀ r : Int32 × Mem, q = .inl r → EnM G X (some .boolean) (some (.int r.1)) r.2 0 0) → (hx0 : ∀ y : Mem, q = (.inr y) → ZM G X 35 [(0, .ref v0)] [] y 0 0) → ZM G X 2 [(0, .ref v0), (1, .int v1)] [] M 0 0 := by
  intro f
  induction f with
  | zero => intro v1 M h; cases h
  | succ f ih =>
    intro v1 M h hr hx0
    exact zBU_sizesFit_2 hG C N hD hd (K := LU_sizesFit_2 f) (q := q) (fun v1 M h => ih v1 M h hr hx0) hr hx0 h
set_option maxHeartbeats 2000000 in
theorem xU_sizesFit {G : GXM} {l : Launch} (hG : GokM G) (d : Nat) (hd : 0 ≤ d) {v0 : Nat} {M : Mem} {q : Int32 × Mem} (h : fU_sizesFit v0 M = some q) : ExM G l d 0 0 yU_sizesFit cU_sizesFit 2 (some .boolean) [.ref v0] M (some (.int q.1)) q.2 := by
  refine ex_of hG (by decide +kernel) (Nat.le_of_ble_eq_true rfl) ?_
  intro X hl C E N hD hn
  show ZM G X 0 [(0, .ref v0)] [] M 0 0
  unfold fU_sizesFit at h
  refine zz_iconst (v := 1) C ddU_sizesFit_0 (by decide) ?_
  refine zz_istore_n (L1 := [(1, .int 1), (0, .ref v0)]) C ddU_sizesFit_1 rfl N (by decide) rfl ?_
  refine zz_loc (L1 := [(0, .ref v0), (1, .int 1)]) [1, 0] rfl ?_
  obtain ⟨q1, hq1, h⟩ := bindN h
  refine zLU_sizesFit_2 hG C N hD hd 1000000 _ _ hq1 ?_ ?_
  · intro r2 eq1; subst eq1
    obtain rfl := Option.some.inj h
    exact E
  · intro y3 eq1; subst eq1
    refine zz_aload_n C 0 ddU_sizesFit_35 rfl rfl ?_
    obtain ⟨h4, h⟩ := gdN h
    refine zz_geti C ddU_sizesFit_36 fl_U_18 rfl h4 ?_
    refine zz_if_le (tgt := 66) C ddU_sizesFit_39 rfl (fun hc => ?_) (fun hc => ?_)
    · replace h := iteT h hc
      refine zz_loc (L1 := []) [] rfl ?_
      exact zBU_sizesFit_66 hG C N hD hd E h
    · replace h := iteF h hc
      refine zz_aload_n C 0 ddU_sizesFit_42 rfl rfl ?_
      obtain ⟨h5, h⟩ := gdN h
      refine zz_getr C ddU_sizesFit_43 fl_U_15 rfl h4 (of_decide_eq_true h5) ?_
      refine zz_aload_n C 0 ddU_sizesFit_46 rfl rfl ?_
      refine zz_geti C ddU_sizesFit_47 fl_U_18 rfl h4 ?_
      refine zz_iconst (v := 1) C ddU_sizesFit_50 (by decide) ?_
      refine zz_isub C ddU_sizesFit_51 ?_
      obtain ⟨h6, h⟩ := gdN h
      refine zz_iaload C ddU_sizesFit_52 h6 ?_
      refine zz_aload_n C 0 ddU_sizesFit_53 rfl rfl ?_
      obtain ⟨h7, h⟩ := gdN h
      refine zz_getr C ddU_sizesFit_54 fl_U_9 rfl h4 (of_decide_eq_true h7) ?_
      refine zz_iconst (v := 2) C ddU_sizesFit_57 (by decide) ?_
      obtain ⟨h8, h⟩ := gdN h
      refine zz_iaload C ddU_sizesFit_58 h8 ?_
      refine zz_icmp_gt (tgt := 66) C ddU_sizesFit_59 rfl (fun hc => ?_) (fun hc => ?_)
      · replace h := iteT h hc
        refine zz_loc (L1 := []) [] rfl ?_
        exact zBU_sizesFit_66 hG C N hD hd E h
      · replace h := iteF h hc
        refine zz_iconst (v := 1) C ddU_sizesFit_62 (by decide) ?_
        refine zz_goto (tgt := 67) C ddU_sizesFit_63 rfl ?_
        refine zz_loc (L1 := []) [] rfl ?_
        exact zBU_sizesFit_67 hG C N hD hd E h
theorem ddU_copyFrom_0 : decode cU_copyFrom 0 = .ok (.aload_n 1, 1) := by decide +kernel
theorem ddU_copyFrom_1 : decode cU_copyFrom 1 = .ok (.getfield 9, 3) := by decide +kernel
theorem ddU_copyFrom_4 : decode cU_copyFrom 4 = .ok (.iconst 0, 1) := by decide +kernel
theorem ddU_copyFrom_5 : decode cU_copyFrom 5 = .ok (.aload_n 0, 1) := by decide +kernel
theorem ddU_copyFrom_6 : decode cU_copyFrom 6 = .ok (.getfield 9, 3) := by decide +kernel
theorem ddU_copyFrom_9 : decode cU_copyFrom 9 = .ok (.iconst 0, 1) := by decide +kernel
theorem ddU_copyFrom_10 : decode cU_copyFrom 10 = .ok (.aload_n 0, 1) := by decide +kernel
theorem ddU_copyFrom_11 : decode cU_copyFrom 11 = .ok (.getfield 9, 3) := by decide +kernel
theorem ddU_copyFrom_14 : decode cU_copyFrom 14 = .ok (.arraylength, 1) := by decide +kernel
theorem ddU_copyFrom_15 : decode cU_copyFrom 15 = .ok (.invokestatic 22, 3) := by decide +kernel
theorem ddU_copyFrom_18 : decode cU_copyFrom 18 = .ok (.aload_n 1, 1) := by decide +kernel
theorem ddU_copyFrom_19 : decode cU_copyFrom 19 = .ok (.getfield 15, 3) := by decide +kernel
theorem ddU_copyFrom_22 : decode cU_copyFrom 22 = .ok (.iconst 0, 1) := by decide +kernel
theorem ddU_copyFrom_23 : decode cU_copyFrom 23 = .ok (.aload_n 0, 1) := by decide +kernel
theorem ddU_copyFrom_24 : decode cU_copyFrom 24 = .ok (.getfield 15, 3) := by decide +kernel
theorem ddU_copyFrom_27 : decode cU_copyFrom 27 = .ok (.iconst 0, 1) := by decide +kernel
theorem ddU_copyFrom_28 : decode cU_copyFrom 28 = .ok (.aload_n 0, 1) := by decide +kernel
theorem ddU_copyFrom_29 : decode cU_copyFrom 29 = .ok (.getfield 15, 3) := by decide +kernel
theorem ddU_copyFrom_32 : decode cU_copyFrom 32 = .ok (.arraylength, 1) := by decide +kernel
theorem ddU_copyFrom_33 : decode cU_copyFrom 33 = .ok (.invokestatic 22, 3) := by decide +kernel
theorem ddU_copyFrom_36 : decode cU_copyFrom 36 = .ok (.aload_n 0, 1) := by decide +kernel
theorem ddU_copyFrom_37 : decode cU_copyFrom 37 = .ok (.aload_n 1, 1) := by decide +kernel
theorem ddU_copyFrom_38 : decode cU_copyFrom 38 = .ok (.getfield 18, 3) := by decide +kernel
theorem ddU_copyFrom_41 : decode cU_copyFrom 41 = .ok (.putfield 18, 3) := by decide +kernel
theorem ddU_copyFrom_44 : decode cU_copyFrom 44 = .ok (.return_, 1) := by decide +kernel
set_option maxHeartbeats 2000000 in
theorem xU_copyFrom {G : GXM} {l : Launch} (hG : GokM G) (d : Nat) (hd : 1 ≤ d) {v0 : Nat} {v1 : Nat} {M : Mem} {q : Mem} (h : fU_copyFrom v0 v1 M = some q) : ExM G l d 0 0 yU_copyFrom cU_copyFrom 2 none [.ref v0, .ref v1] M none q := by
  refine ex_of hG (by decide +kernel) (Nat.le_of_ble_eq_true rfl) ?_
  intro X hl C E N hD hn
  show ZM G X 0 [(0, .ref v0), (1, .ref v1)] [] M 0 0
  unfold fU_copyFrom at h
  refine zz_aload_n C 1 ddU_copyFrom_0 rfl rfl ?_
  obtain ⟨h1, h⟩ := gdN h
  obtain ⟨h2, h⟩ := gdN h
  refine zz_getr C ddU_copyFrom_1 fl_U_9 rfl h1 (of_decide_eq_true h2) ?_
  refine zz_iconst (v := 0) C ddU_copyFrom_4 (by decide) ?_
  refine zz_aload_n C 0 ddU_copyFrom_5 rfl rfl ?_
  obtain ⟨h3, h⟩ := gdN h
  obtain ⟨h4, h⟩ := gdN h
  refine zz_getr C ddU_copyFrom_6 fl_U_9 rfl h3 (of_decide_eq_true h4) ?_
  refine zz_iconst (v := 0) C ddU_copyFrom_9 (by decide) ?_
  refine zz_aload_n C 0 ddU_copyFrom_10 rfl rfl ?_
  refine zz_getr C ddU_copyFrom_11 fl_U_9 rfl h3 (of_decide_eq_true h4) ?_
  obtain ⟨h5, h⟩ := gdN h
  refine zz_alenI C ddU_copyFrom_14 h5 ?_
  obtain ⟨h6, h⟩ := gdN h
  refine zz_copy C ddU_copyFrom_15 wd_360 ⟨wd_362, wd_361, wd_14⟩ h6 (by omega) (Nat.le_of_ble_eq_true rfl) ?_
  refine zz_aload_n C 1 ddU_copyFrom_18 rfl rfl ?_
  obtain ⟨h7, h⟩ := gdN h
  refine zz_getr C ddU_copyFrom_19 fl_U_15 rfl h1 (of_decide_eq_true h7) ?_
  refine zz_iconst (v := 0) C ddU_copyFrom_22 (by decide) ?_
  refine zz_aload_n C 0 ddU_copyFrom_23 rfl rfl ?_
  obtain ⟨h8, h⟩ := gdN h
  refine zz_getr C ddU_copyFrom_24 fl_U_15 rfl h3 (of_decide_eq_true h8) ?_
  refine zz_iconst (v := 0) C ddU_copyFrom_27 (by decide) ?_
  refine zz_aload_n C 0 ddU_copyFrom_28 rfl rfl ?_
  refine zz_getr C ddU_copyFrom_29 fl_U_15 rfl h3 (of_decide_eq_true h8) ?_
  obtain ⟨h9, h⟩ := gdN h
  refine zz_alenI C ddU_copyFrom_32 h9 ?_
  obtain ⟨h10, h⟩ := gdN h
  refine zz_copy C ddU_copyFrom_33 wd_360 ⟨wd_362, wd_361, wd_14⟩ h10 (by omega) (Nat.le_of_ble_eq_true rfl) ?_
  refine zz_aload_n C 0 ddU_copyFrom_36 rfl rfl ?_
  refine zz_aload_n C 1 ddU_copyFrom_37 rfl rfl ?_
  refine zz_geti C ddU_copyFrom_38 fl_U_18 rfl h1 ?_
  refine zz_puti C ddU_copyFrom_41 fl_U_18 rfl rfl rfl h3 ?_
  obtain rfl := Option.some.inj h
  exact zz_vret C E ddU_copyFrom_44
theorem ddY_fill_0 : decode cY_fill 0 = .ok (.iconst 0, 1) := by decide +kernel
theorem ddY_fill_1 : decode cY_fill 1 = .ok (.istore_n 2, 1) := by decide +kernel
theorem ddY_fill_2 : decode cY_fill 2 = .ok (.aload_n 0, 1) := by decide +kernel
theorem ddY_fill_3 : decode cY_fill 3 = .ok (.arraylength, 1) := by decide +kernel
theorem ddY_fill_4 : decode cY_fill 4 = .ok (.istore_n 3, 1) := by decide +kernel
theorem ddY_fill_5 : decode cY_fill 5 = .ok (.iload_n 2, 1) := by decide +kernel
theorem ddY_fill_6 : decode cY_fill 6 = .ok (.iload_n 3, 1) := by decide +kernel
theorem ddY_fill_7 : decode cY_fill 7 = .ok (.if_icmp .ge 13, 3) := by decide +kernel
theorem ddY_fill_10 : decode cY_fill 10 = .ok (.aload_n 0, 1) := by decide +kernel
theorem ddY_fill_11 : decode cY_fill 11 = .ok (.iload_n 2, 1) := by decide +kernel
theorem ddY_fill_12 : decode cY_fill 12 = .ok (.iload_n 1, 1) := by decide +kernel
theorem ddY_fill_13 : decode cY_fill 13 = .ok (.iastore, 1) := by decide +kernel
theorem ddY_fill_14 : decode cY_fill 14 = .ok (.iinc 2 1, 3) := by decide +kernel
theorem ddY_fill_17 : decode cY_fill 17 = .ok (.goto (-12), 3) := by decide +kernel
theorem ddY_fill_20 : decode cY_fill 20 = .ok (.return_, 1) := by decide +kernel
set_option maxHeartbeats 2000000 in
theorem zBY_fill_5 {G : GXM} {X : CxM} (hG : GokM G) (C : CoM G X cY_fill "java/util/Arrays") (N : mLM X = 4) {d : Nat} (hD : dpM X = d) (hd : 0 ≤ d) {v0 : Nat} {v1 : Int32} {v3 : Int32} {K : Nat → Int32 → Int32 → Int32 → Mem → Option ((Mem))} {q : (Mem)} (hK : ∀ (v2 : Int32) (M : Mem), K v0 v1 v2 v3 M = some q → ZM G X 5 [(0, .ref v0), (1, .int v1), (2, .int v2), (3, .int v3)] [] M 0 0) (hr : ∀ r : Mem, q =  r → EnM G X none none r 0 0) {v2 : Int32} {M : Mem} (h : BY_fill_5 K v0 v1 v2 v3 M = some q) : ZM G X 5 [(0, .ref v0), (1, .int v1), (2, .int v2), (3, .int v3)] [] M 0 0 := by
  unfold BY_fill_5 at h
  refine zz_iload_n C 2 ddY_fill_5 rfl rfl ?_
  refine zz_iload_n C 3 ddY_fill_6 rfl rfl ?_
  refine zz_icmp_ge (tgt := 20) C ddY_fill_7 rfl (fun hc => ?_) (fun hc => ?_)
  · replace h := iteT h hc
    exact zz_vret C (hr _ (Option.some.inj h).symm) ddY_fill_20
  · replace h := iteF h hc
    refine zz_aload_n C 0 ddY_fill_10 rfl rfl ?_
    refine zz_iload_n C 2 ddY_fill_11 rfl rfl ?_
    refine zz_iload_n C 1 ddY_fill_12 rfl rfl ?_
    obtain ⟨h1, h⟩ := gdN h
    refine zz_iastore C ddY_fill_13 h1 ?_
    refine zz_iinc (v := v2 + 1) (L1 := [(2, .int (v2 + 1)), (0, .ref v0), (1, .int v1), (3, .int v3)]) C 2 ddY_fill_14 rfl rfl N (by decide) rfl ?_
    refine zz_goto (tgt := 5) C ddY_fill_17 rfl ?_
    refine zz_loc (L1 := [(0, .ref v0), (1, .int v1), (2, .int (v2 + 1)), (3, .int v3)]) [1, 2, 0, 3] rfl ?_
    exact hK _ _ h
set_option maxHeartbeats 2000000 in
theorem zLY_fill_5 {G : GXM} {X : CxM} (hG : GokM G) (C : CoM G X cY_fill "java/util/Arrays") (N : mLM X = 4) {d : Nat} (hD : dpM X = d) (hd : 0 ≤ d) {v0 : Nat} {v1 : Int32} {v3 : Int32} {q : (Mem)} : ∀ (f : Nat) (v2 : Int32) (M : Mem), LY_fill_5 f v0 v1 v2 v3 M = some q → (hr : ∀ r : Mem, q =  r → EnM G X none none r 0 0) → ZM G X 5 [(0, .ref v0), (1, .int v1), (2, .int v2), (3, .int v3)] [] M 0 0 := by
  intro f
  induction f with
  | zero => intro v2 M h; cases h
  | succ f ih =>
    intro v2 M h hr
    exact zBY_fill_5 hG C N hD hd (K := LY_fill_5 f) (q := q) (fun v2 M h => ih v2 M h hr) hr h
set_option maxHeartbeats 2000000 in
theorem xY_fill {G : GXM} {l : Launch} (hG : GokM G) (d : Nat) (hd : 0 ≤ d) {v0 : Nat} {v1 : Int32} {M : Mem} {q : Mem} (h : fY_fill v0 v1 M = some q) : ExM G l d 0 0 yY_fill cY_fill 4 none [.ref v0, .int v1] M none q := by
  refine ex_of hG (by decide +kernel) (Nat.le_of_ble_eq_true rfl) ?_
  intro X hl C E N hD hn
  show ZM G X 0 [(0, .ref v0), (1, .int v1)] [] M 0 0
  unfold fY_fill at h
  refine zz_iconst (v := 0) C ddY_fill_0 (by decide) ?_
  refine zz_istore_n (L1 := [(2, .int 0), (0, .ref v0), (1, .int v1)]) C ddY_fill_1 rfl N (by decide) rfl ?_
  refine zz_aload_n C 1 ddY_fill_2 rfl rfl ?_
  obtain ⟨h1, h⟩ := gdN h
  refine zz_alenI C ddY_fill_3 h1 ?_
  refine zz_istore_n (L1 := [(3, .int (Int32.ofNat (tgM M v0).2)), (2, .int 0), (0, .ref v0), (1, .int v1)]) C ddY_fill_4 rfl N (by decide) rfl ?_
  refine zz_loc (L1 := [(0, .ref v0), (1, .int v1), (2, .int 0), (3, .int (Int32.ofNat (tgM M v0).2))]) [2, 3, 1, 0] rfl ?_
  obtain ⟨q2, hq2, h⟩ := bindN h
  refine zLY_fill_5 hG C N hD hd 1000000 _ _ hq2 ?_
  · intro r3 eq2; subst eq2
    obtain rfl := Option.some.inj h
    exact E
theorem ddC_clearAll_0 : decode cC_clearAll 0 = .ok (.aload_n 0, 1) := by decide +kernel
theorem ddC_clearAll_1 : decode cC_clearAll 1 = .ok (.getfield 9, 3) := by decide +kernel
theorem ddC_clearAll_4 : decode cC_clearAll 4 = .ok (.iconst (-1), 1) := by decide +kernel
theorem ddC_clearAll_5 : decode cC_clearAll 5 = .ok (.invokestatic 24, 3) := by decide +kernel
theorem ddC_clearAll_8 : decode cC_clearAll 8 = .ok (.aload_n 0, 1) := by decide +kernel
theorem ddC_clearAll_9 : decode cC_clearAll 9 = .ok (.getfield 15, 3) := by decide +kernel
theorem ddC_clearAll_12 : decode cC_clearAll 12 = .ok (.iconst 0, 1) := by decide +kernel
theorem ddC_clearAll_13 : decode cC_clearAll 13 = .ok (.invokestatic 24, 3) := by decide +kernel
theorem ddC_clearAll_16 : decode cC_clearAll 16 = .ok (.aload_n 0, 1) := by decide +kernel
theorem ddC_clearAll_17 : decode cC_clearAll 17 = .ok (.getfield 18, 3) := by decide +kernel
theorem ddC_clearAll_20 : decode cC_clearAll 20 = .ok (.iconst (-1), 1) := by decide +kernel
theorem ddC_clearAll_21 : decode cC_clearAll 21 = .ok (.invokestatic 24, 3) := by decide +kernel
theorem ddC_clearAll_24 : decode cC_clearAll 24 = .ok (.aload_n 0, 1) := by decide +kernel
theorem ddC_clearAll_25 : decode cC_clearAll 25 = .ok (.getfield 21, 3) := by decide +kernel
theorem ddC_clearAll_28 : decode cC_clearAll 28 = .ok (.iconst (-1), 1) := by decide +kernel
theorem ddC_clearAll_29 : decode cC_clearAll 29 = .ok (.invokestatic 24, 3) := by decide +kernel
theorem ddC_clearAll_32 : decode cC_clearAll 32 = .ok (.return_, 1) := by decide +kernel
set_option maxHeartbeats 2000000 in
theorem xC_clearAll {G : GXM} {l : Launch} (hG : GokM G) (d : Nat) (hd : 1 ≤ d) {v0 : Nat} {M : Mem} {q : Mem} (h : fC_clearAll v0 M = some q) : ExM G l d 0 0 yC_clearAll cC_clearAll 1 none [.ref v0] M none q := by
  refine ex_of hG (by decide +kernel) (Nat.le_of_ble_eq_true rfl) ?_
  intro X hl C E N hD hn
  show ZM G X 0 [(0, .ref v0)] [] M 0 0
  unfold fC_clearAll at h
  refine zz_aload_n C 0 ddC_clearAll_0 rfl rfl ?_
  obtain ⟨h1, h⟩ := gdN h
  obtain ⟨h2, h⟩ := gdN h
  refine zz_getr C ddC_clearAll_1 fl_C_9 rfl h1 (of_decide_eq_true h2) ?_
  refine zz_iconst (v := (-1)) C ddC_clearAll_4 (by decide) ?_
  obtain ⟨q3, hq3, h⟩ := bindN h
  refine zz_callS0 (As := [.ref (grM M v0 0), .int ((-1))]) C ddC_clearAll_5 wd_130 my_Y_fill mv_Y_fill (xY_fill hG (d - 1) (by omega) hq3) (by omega) rfl rfl (Nat.le_of_ble_eq_true rfl) ?_
  refine zz_aload_n C 0 ddC_clearAll_8 rfl rfl ?_
  obtain ⟨h4, h⟩ := gdN h
  obtain ⟨h5, h⟩ := gdN h
  refine zz_getr C ddC_clearAll_9 fl_C_15 rfl h4 (of_decide_eq_true h5) ?_
  refine zz_iconst (v := 0) C ddC_clearAll_12 (by decide) ?_
  obtain ⟨q6, hq6, h⟩ := bindN h
  refine zz_callS0 (As := [.ref (grM q3 v0 1), .int 0]) C ddC_clearAll_13 wd_130 my_Y_fill mv_Y_fill (xY_fill hG (d - 1) (by omega) hq6) (by omega) rfl rfl (Nat.le_of_ble_eq_true rfl) ?_
  refine zz_aload_n C 0 ddC_clearAll_16 rfl rfl ?_
  obtain ⟨h7, h⟩ := gdN h
  obtain ⟨h8, h⟩ := gdN h
  refine zz_getr C ddC_clearAll_17 fl_C_18 rfl h7 (of_decide_eq_true h8) ?_
  refine zz_iconst (v := (-1)) C ddC_clearAll_20 (by decide) ?_
  obtain ⟨q9, hq9, h⟩ := bindN h
  refine zz_callS0 (As := [.ref (grM q6 v0 2), .int ((-1))]) C ddC_clearAll_21 wd_130 my_Y_fill mv_Y_fill (xY_fill hG (d - 1) (by omega) hq9) (by omega) rfl rfl (Nat.le_of_ble_eq_true rfl) ?_
  refine zz_aload_n C 0 ddC_clearAll_24 rfl rfl ?_
  obtain ⟨h10, h⟩ := gdN h
  obtain ⟨h11, h⟩ := gdN h
  refine zz_getr C ddC_clearAll_25 fl_C_21 rfl h10 (of_decide_eq_true h11) ?_
  refine zz_iconst (v := (-1)) C ddC_clearAll_28 (by decide) ?_
  obtain ⟨q12, hq12, h⟩ := bindN h
  refine zz_callS0 (As := [.ref (grM q9 v0 3), .int ((-1))]) C ddC_clearAll_29 wd_130 my_Y_fill mv_Y_fill (xY_fill hG (d - 1) (by omega) hq12) (by omega) rfl rfl (Nat.le_of_ble_eq_true rfl) ?_
  obtain rfl := Option.some.inj h
  exact zz_vret C E ddC_clearAll_32
theorem ddH_makeNew_0 : decode cH_makeNew 0 = .ok (.aload_n 0, 1) := by decide +kernel
theorem ddH_makeNew_1 : decode cH_makeNew 1 = .ok (.getfield 9, 3) := by decide +kernel
theorem ddH_makeNew_4 : decode cH_makeNew 4 = .ok (.iconst (-1), 1) := by decide +kernel
theorem ddH_makeNew_5 : decode cH_makeNew 5 = .ok (.invokestatic 50, 3) := by decide +kernel
theorem ddH_makeNew_8 : decode cH_makeNew 8 = .ok (.aload_n 0, 1) := by decide +kernel
theorem ddH_makeNew_9 : decode cH_makeNew 9 = .ok (.getfield 15, 3) := by decide +kernel
theorem ddH_makeNew_12 : decode cH_makeNew 12 = .ok (.iconst (-1), 1) := by decide +kernel
theorem ddH_makeNew_13 : decode cH_makeNew 13 = .ok (.invokestatic 50, 3) := by decide +kernel
theorem ddH_makeNew_16 : decode cH_makeNew 16 = .ok (.aload_n 0, 1) := by decide +kernel
theorem ddH_makeNew_17 : decode cH_makeNew 17 = .ok (.getfield 18, 3) := by decide +kernel
theorem ddH_makeNew_20 : decode cH_makeNew 20 = .ok (.iconst 0, 1) := by decide +kernel
theorem ddH_makeNew_21 : decode cH_makeNew 21 = .ok (.invokestatic 50, 3) := by decide +kernel
theorem ddH_makeNew_24 : decode cH_makeNew 24 = .ok (.aload_n 0, 1) := by decide +kernel
theorem ddH_makeNew_25 : decode cH_makeNew 25 = .ok (.getfield 26, 3) := by decide +kernel
theorem ddH_makeNew_28 : decode cH_makeNew 28 = .ok (.invokevirtual 56, 3) := by decide +kernel
theorem ddH_makeNew_31 : decode cH_makeNew 31 = .ok (.aload_n 0, 1) := by decide +kernel
theorem ddH_makeNew_32 : decode cH_makeNew 32 = .ok (.getfield 30, 3) := by decide +kernel
theorem ddH_makeNew_35 : decode cH_makeNew 35 = .ok (.invokevirtual 56, 3) := by decide +kernel
theorem ddH_makeNew_38 : decode cH_makeNew 38 = .ok (.aload_n 0, 1) := by decide +kernel
theorem ddH_makeNew_39 : decode cH_makeNew 39 = .ok (.getfield 33, 3) := by decide +kernel
theorem ddH_makeNew_42 : decode cH_makeNew 42 = .ok (.iconst 1, 1) := by decide +kernel
theorem ddH_makeNew_43 : decode cH_makeNew 43 = .ok (.invokestatic 50, 3) := by decide +kernel
theorem ddH_makeNew_46 : decode cH_makeNew 46 = .ok (.aload_n 0, 1) := by decide +kernel
theorem ddH_makeNew_47 : decode cH_makeNew 47 = .ok (.getfield 36, 3) := by decide +kernel
theorem ddH_makeNew_50 : decode cH_makeNew 50 = .ok (.iconst 0, 1) := by decide +kernel
theorem ddH_makeNew_51 : decode cH_makeNew 51 = .ok (.invokestatic 50, 3) := by decide +kernel
theorem ddH_makeNew_54 : decode cH_makeNew 54 = .ok (.aload_n 0, 1) := by decide +kernel
theorem ddH_makeNew_55 : decode cH_makeNew 55 = .ok (.getfield 42, 3) := by decide +kernel
theorem ddH_makeNew_58 : decode cH_makeNew 58 = .ok (.iconst 0, 1) := by decide +kernel
theorem ddH_makeNew_59 : decode cH_makeNew 59 = .ok (.putfield 59, 3) := by decide +kernel
theorem ddH_makeNew_62 : decode cH_makeNew 62 = .ok (.return_, 1) := by decide +kernel
set_option maxHeartbeats 2000000 in
theorem xH_makeNew {G : GXM} {l : Launch} (hG : GokM G) (d : Nat) (hd : 2 ≤ d) {v0 : Nat} {M : Mem} {q : Mem} (h : fH_makeNew v0 M = some q) : ExM G l d 0 0 yH_makeNew cH_makeNew 1 none [.ref v0] M none q := by
  refine ex_of hG (by decide +kernel) (Nat.le_of_ble_eq_true rfl) ?_
  intro X hl C E N hD hn
  show ZM G X 0 [(0, .ref v0)] [] M 0 0
  unfold fH_makeNew at h
  refine zz_aload_n C 0 ddH_makeNew_0 rfl rfl ?_
  obtain ⟨h1, h⟩ := gdN h
  obtain ⟨h2, h⟩ := gdN h
  refine zz_getr C ddH_makeNew_1 fl_H_9 rfl h1 (of_decide_eq_true h2) ?_
  refine zz_iconst (v := (-1)) C ddH_makeNew_4 (by decide) ?_
  obtain ⟨q3, hq3, h⟩ := bindN h
  refine zz_callS0 (As := [.ref (grM M v0 1), .int ((-1))]) C ddH_makeNew_5 wd_166 my_Y_fill mv_Y_fill (xY_fill hG (d - 1) (by omega) hq3) (by omega) rfl rfl (Nat.le_of_ble_eq_true rfl) ?_
  refine zz_aload_n C 0 ddH_makeNew_8 rfl rfl ?_
  obtain ⟨h4, h⟩ := gdN h
  obtain ⟨h5, h⟩ := gdN h
  refine zz_getr C ddH_makeNew_9 fl_H_15 rfl h4 (of_decide_eq_true h5) ?_
  refine zz_iconst (v := (-1)) C ddH_makeNew_12 (by decide) ?_
  obtain ⟨q6, hq6, h⟩ := bindN h
  refine zz_callS0 (As := [.ref (grM q3 v0 2), .int ((-1))]) C ddH_makeNew_13 wd_166 my_Y_fill mv_Y_fill (xY_fill hG (d - 1) (by omega) hq6) (by omega) rfl rfl (Nat.le_of_ble_eq_true rfl) ?_
  refine zz_aload_n C 0 ddH_makeNew_16 rfl rfl ?_
  obtain ⟨h7, h⟩ := gdN h
  obtain ⟨h8, h⟩ := gdN h
  refine zz_getr C ddH_makeNew_17 fl_H_18 rfl h7 (of_decide_eq_true h8) ?_
  refine zz_iconst (v := 0) C ddH_makeNew_20 (by decide) ?_
  obtain ⟨q9, hq9, h⟩ := bindN h
  refine zz_callS0 (As := [.ref (grM q6 v0 3), .int 0]) C ddH_makeNew_21 wd_166 my_Y_fill mv_Y_fill (xY_fill hG (d - 1) (by omega) hq9) (by omega) rfl rfl (Nat.le_of_ble_eq_true rfl) ?_
  refine zz_aload_n C 0 ddH_makeNew_24 rfl rfl ?_
  obtain ⟨h10, h⟩ := gdN h
  obtain ⟨h11, h⟩ := gdN h
  refine zz_getr C ddH_makeNew_25 fl_H_26 rfl h10 (of_decide_eq_true h11) ?_
  obtain ⟨h13, h⟩ := gdN h
  obtain ⟨q12, hq12, h⟩ := bindN h
  refine zz_callV0 (As := []) C ddH_makeNew_28 wd_545 my_C_clearAll mv_C_clearAll ⟨_, rfl, rfl⟩ (xC_clearAll hG (d - 1) (by omega) hq12) (by omega) h13 rfl rfl (Nat.le_of_ble_eq_true rfl) ?_
  refine zz_aload_n C 0 ddH_makeNew_31 rfl rfl ?_
  obtain ⟨h14, h⟩ := gdN h
  obtain ⟨h15, h⟩ := gdN h
  refine zz_getr C ddH_makeNew_32 fl_H_30 rfl h14 (of_decide_eq_true h15) ?_
  obtain ⟨h17, h⟩ := gdN h
  obtain ⟨q16, hq16, h⟩ := bindN h
  refine zz_callV0 (As := []) C ddH_makeNew_35 wd_545 my_C_clearAll mv_C_clearAll ⟨_, rfl, rfl⟩ (xC_clearAll hG (d - 1) (by omega) hq16) (by omega) h17 rfl rfl (Nat.le_of_ble_eq_true rfl) ?_
  refine zz_aload_n C 0 ddH_makeNew_38 rfl rfl ?_
  obtain ⟨h18, h⟩ := gdN h
  obtain ⟨h19, h⟩ := gdN h
  refine zz_getr C ddH_makeNew_39 fl_H_33 rfl h18 (of_decide_eq_true h19) ?_
  refine zz_iconst (v := 1) C ddH_makeNew_42 (by decide) ?_
  obtain ⟨q20, hq20, h⟩ := bindN h
  refine zz_callS0 (As := [.ref (grM q16 v0 6), .int 1]) C ddH_makeNew_43 wd_166 my_Y_fill mv_Y_fill (xY_fill hG (d - 1) (by omega) hq20) (by omega) rfl rfl (Nat.le_of_ble_eq_true rfl) ?_
  refine zz_aload_n C 0 ddH_makeNew_46 rfl rfl ?_
  obtain ⟨h21, h⟩ := gdN h
  obtain ⟨h22, h⟩ := gdN h
  refine zz_getr C ddH_makeNew_47 fl_H_36 rfl h21 (of_decide_eq_true h22) ?_
  refine zz_iconst (v := 0) C ddH_makeNew_50 (by decide) ?_
  obtain ⟨q23, hq23, h⟩ := bindN h
  refine zz_callS0 (As := [.ref (grM q20 v0 7), .int 0]) C ddH_makeNew_51 wd_166 my_Y_fill mv_Y_fill (xY_fill hG (d - 1) (by omega) hq23) (by omega) rfl rfl (Nat.le_of_ble_eq_true rfl) ?_
  refine zz_aload_n C 0 ddH_makeNew_54 rfl rfl ?_
  obtain ⟨h24, h⟩ := gdN h
  obtain ⟨h25, h⟩ := gdN h
  refine zz_getr C ddH_makeNew_55 fl_H_42 rfl h24 (of_decide_eq_true h25) ?_
  refine zz_iconst (v := 0) C ddH_makeNew_58 (by decide) ?_
  obtain ⟨h26, h⟩ := gdN h
  refine zz_puti C ddH_makeNew_59 fl_H_59 rfl rfl rfl h26 ?_
  obtain rfl := Option.some.inj h
  exact zz_vret C E ddH_makeNew_62
theorem ddP_forget_0 : decode cP_forget 0 = .ok (.aload_n 0, 1) := by decide +kernel
theorem ddP_forget_1 : decode cP_forget 1 = .ok (.iconst 0, 1) := by decide +kernel
theorem ddP_forget_2 : decode cP_forget 2 = .ok (.putfield 24, 3) := by decide +kernel
theorem ddP_forget_5 : decode cP_forget 5 = .ok (.return_, 1) := by decide +kernel
set_option maxHeartbeats 2000000 in
theorem xP_forget {G : GXM} {l : Launch} (hG : GokM G) (d : Nat) (hd : 0 ≤ d) {v0 : Nat} {M : Mem} {q : Mem} (h : fP_forget v0 M = some q) : ExM G l d 0 0 yP_forget cP_forget 1 none [.ref v0] M none q := by
  refine ex_of hG (by decide +kernel) (Nat.le_of_ble_eq_true rfl) ?_
  intro X hl C E N hD hn
  show ZM G X 0 [(0, .ref v0)] [] M 0 0
  unfold fP_forget at h
  refine zz_aload_n C 0 ddP_forget_0 rfl rfl ?_
  refine zz_iconst (v := 0) C ddP_forget_1 (by decide) ?_
  obtain ⟨h1, h⟩ := gdN h
  refine zz_puti C ddP_forget_2 fl_P_24 rfl rfl rfl h1 ?_
  obtain rfl := Option.some.inj h
  exact zz_vret C E ddP_forget_5
theorem ddS_copyFrom_0 : decode cS_copyFrom 0 = .ok (.aload_n 1, 1) := by decide +kernel
theorem ddS_copyFrom_1 : decode cS_copyFrom 1 = .ok (.getfield 9, 3) := by decide +kernel
theorem ddS_copyFrom_4 : decode cS_copyFrom 4 = .ok (.iconst 0, 1) := by decide +kernel
theorem ddS_copyFrom_5 : decode cS_copyFrom 5 = .ok (.aload_n 0, 1) := by decide +kernel
theorem ddS_copyFrom_6 : decode cS_copyFrom 6 = .ok (.getfield 9, 3) := by decide +kernel
theorem ddS_copyFrom_9 : decode cS_copyFrom 9 = .ok (.iconst 0, 1) := by decide +kernel
theorem ddS_copyFrom_10 : decode cS_copyFrom 10 = .ok (.bipush 24, 2) := by decide +kernel
theorem ddS_copyFrom_12 : decode cS_copyFrom 12 = .ok (.invokestatic 25, 3) := by decide +kernel
theorem ddS_copyFrom_15 : decode cS_copyFrom 15 = .ok (.aload_n 1, 1) := by decide +kernel
theorem ddS_copyFrom_16 : decode cS_copyFrom 16 = .ok (.getfield 15, 3) := by decide +kernel
theorem ddS_copyFrom_19 : decode cS_copyFrom 19 = .ok (.iconst 0, 1) := by decide +kernel
theorem ddS_copyFrom_20 : decode cS_copyFrom 20 = .ok (.aload_n 0, 1) := by decide +kernel
theorem ddS_copyFrom_21 : decode cS_copyFrom 21 = .ok (.getfield 15, 3) := by decide +kernel
theorem ddS_copyFrom_24 : decode cS_copyFrom 24 = .ok (.iconst 0, 1) := by decide +kernel
theorem ddS_copyFrom_25 : decode cS_copyFrom 25 = .ok (.bipush 24, 2) := by decide +kernel
theorem ddS_copyFrom_27 : decode cS_copyFrom 27 = .ok (.invokestatic 25, 3) := by decide +kernel
theorem ddS_copyFrom_30 : decode cS_copyFrom 30 = .ok (.aload_n 1, 1) := by decide +kernel
theorem ddS_copyFrom_31 : decode cS_copyFrom 31 = .ok (.getfield 18, 3) := by decide +kernel
theorem ddS_copyFrom_34 : decode cS_copyFrom 34 = .ok (.iconst 0, 1) := by decide +kernel
theorem ddS_copyFrom_35 : decode cS_copyFrom 35 = .ok (.aload_n 0, 1) := by decide +kernel
theorem ddS_copyFrom_36 : decode cS_copyFrom 36 = .ok (.getfield 18, 3) := by decide +kernel
theorem ddS_copyFrom_39 : decode cS_copyFrom 39 = .ok (.iconst 0, 1) := by decide +kernel
theorem ddS_copyFrom_40 : decode cS_copyFrom 40 = .ok (.bipush 24, 2) := by decide +kernel
theorem ddS_copyFrom_42 : decode cS_copyFrom 42 = .ok (.invokestatic 25, 3) := by decide +kernel
theorem ddS_copyFrom_45 : decode cS_copyFrom 45 = .ok (.aload_n 0, 1) := by decide +kernel
theorem ddS_copyFrom_46 : decode cS_copyFrom 46 = .ok (.aload_n 1, 1) := by decide +kernel
theorem ddS_copyFrom_47 : decode cS_copyFrom 47 = .ok (.getfield 21, 3) := by decide +kernel
theorem ddS_copyFrom_50 : decode cS_copyFrom 50 = .ok (.putfield 21, 3) := by decide +kernel
theorem ddS_copyFrom_53 : decode cS_copyFrom 53 = .ok (.return_, 1) := by decide +kernel
set_option maxHeartbeats 2000000 in
theorem xS_copyFrom {G : GXM} {l : Launch} (hG : GokM G) (d : Nat) (hd : 1 ≤ d) {v0 : Nat} {v1 : Nat} {M : Mem} {q : Mem} (h : fS_copyFrom v0 v1 M = some q) : ExM G l d 0 0 yS_copyFrom cS_copyFrom 2 none [.ref v0, .ref v1] M none q := by
  refine ex_of hG (by decide +kernel) (Nat.le_of_ble_eq_true rfl) ?_
  intro X hl C E N hD hn
  show ZM G X 0 [(0, .ref v0), (1, .ref v1)] [] M 0 0
  unfold fS_copyFrom at h
  refine zz_aload_n C 1 ddS_copyFrom_0 rfl rfl ?_
  obtain ⟨h1, h⟩ := gdN h
  obtain ⟨h2, h⟩ := gdN h
  refine zz_getr C ddS_copyFrom_1 fl_S_9 rfl h1 (of_decide_eq_true h2) ?_
  refine zz_iconst (v := 0) C ddS_copyFrom_4 (by decide) ?_
  refine zz_aload_n C 0 ddS_copyFrom_5 rfl rfl ?_
  obtain ⟨h3, h⟩ := gdN h
  obtain ⟨h4, h⟩ := gdN h
  refine zz_getr C ddS_copyFrom_6 fl_S_9 rfl h3 (of_decide_eq_true h4) ?_
  refine zz_iconst (v := 0) C ddS_copyFrom_9 (by decide) ?_
  refine zz_bipush (v := 24) C ddS_copyFrom_10 (by decide) ?_
  obtain ⟨h5, h⟩ := gdN h
  refine zz_copy C ddS_copyFrom_12 wd_561 ⟨wd_362, wd_361, wd_14⟩ h5 (by omega) (Nat.le_of_ble_eq_true rfl) ?_
  refine zz_aload_n C 1 ddS_copyFrom_15 rfl rfl ?_
  obtain ⟨h6, h⟩ := gdN h
  refine zz_getr C ddS_copyFrom_16 fl_S_15 rfl h1 (of_decide_eq_true h6) ?_
  refine zz_iconst (v := 0) C ddS_copyFrom_19 (by decide) ?_
  refine zz_aload_n C 0 ddS_copyFrom_20 rfl rfl ?_
  obtain ⟨h7, h⟩ := gdN h
  refine zz_getr C ddS_copyFrom_21 fl_S_15 rfl h3 (of_decide_eq_true h7) ?_
  refine zz_iconst (v := 0) C ddS_copyFrom_24 (by decide) ?_
  refine zz_bipush (v := 24) C ddS_copyFrom_25 (by decide) ?_
  obtain ⟨h8, h⟩ := gdN h
  refine zz_copy C ddS_copyFrom_27 wd_561 ⟨wd_362, wd_361, wd_14⟩ h8 (by omega) (Nat.le_of_ble_eq_true rfl) ?_
  refine zz_aload_n C 1 ddS_copyFrom_30 rfl rfl ?_
  obtain ⟨h9, h⟩ := gdN h
  refine zz_getr C ddS_copyFrom_31 fl_S_18 rfl h1 (of_decide_eq_true h9) ?_
  refine zz_iconst (v := 0) C ddS_copyFrom_34 (by decide) ?_
  refine zz_aload_n C 0 ddS_copyFrom_35 rfl rfl ?_
  obtain ⟨h10, h⟩ := gdN h
  refine zz_getr C ddS_copyFrom_36 fl_S_18 rfl h3 (of_decide_eq_true h10) ?_
  refine zz_iconst (v := 0) C ddS_copyFrom_39 (by decide) ?_
  refine zz_bipush (v := 24) C ddS_copyFrom_40 (by decide) ?_
  obtain ⟨h11, h⟩ := gdN h
  refine zz_copy C ddS_copyFrom_42 wd_561 ⟨wd_362, wd_361, wd_14⟩ h11 (by omega) (Nat.le_of_ble_eq_true rfl) ?_
  refine zz_aload_n C 0 ddS_copyFrom_45 rfl rfl ?_
  refine zz_aload_n C 1 ddS_copyFrom_46 rfl rfl ?_
  refine zz_geti C ddS_copyFrom_47 fl_S_21 rfl h1 ?_
  refine zz_puti C ddS_copyFrom_50 fl_S_21 rfl rfl rfl h3 ?_
  obtain rfl := Option.some.inj h
  exact zz_vret C E ddS_copyFrom_53
theorem ddU_areTold_0 : decode cU_areTold 0 = .ok (.aload_n 0, 1) := by decide +kernel
theorem ddU_areTold_1 : decode cU_areTold 1 = .ok (.getfield 18, 3) := by decide +kernel
theorem ddU_areTold_4 : decode cU_areTold 4 = .ok (.ifCond .le 7, 3) := by decide +kernel
theorem ddU_areTold_7 : decode cU_areTold 7 = .ok (.iconst 1, 1) := by decide +kernel
theorem ddU_areTold_8 : decode cU_areTold 8 = .ok (.goto 4, 3) := by decide +kernel
theorem ddU_areTold_11 : decode cU_areTold 11 = .ok (.iconst 0, 1) := by decide +kernel
theorem ddU_areTold_12 : decode cU_areTold 12 = .ok (.ireturn, 1) := by decide +kernel
set_option maxHeartbeats 2000000 in
theorem zBU_areTold_12 {G : GXM} {X : CxM} (hG : GokM G) (C : CoM G X cU_areTold "HomeFreed$Rules") (N : mLM X = 1) {d : Nat} (hD : dpM X = d) (hd : 0 ≤ d)  {q : Int32 × Mem} (E : EnM G X (some .boolean) (some (.int q.1)) q.2 0 0) {w0 : Int32} {M : Mem} (h : BU_areTold_12 w0 M = some q) : ZM G X 12 [] [.int w0] M 0 0 := by
  unfold BU_areTold_12 at h
  obtain ⟨h1, h⟩ := gdN h
  obtain rfl := Option.some.inj h
  exact zz_zret C (of_decide_eq_true h1) E ddU_areTold_12
set_option maxHeartbeats 2000000 in
theorem xU_areTold {G : GXM} {l : Launch} (hG : GokM G) (d : Nat) (hd : 0 ≤ d) {v0 : Nat} {M : Mem} {q : Int32 × Mem} (h : fU_areTold v0 M = some q) : ExM G l d 0 0 yU_areTold cU_areTold 1 (some .boolean) [.ref v0] M (some (.int q.1)) q.2 := by
  refine ex_of hG (by decide +kernel) (Nat.le_of_ble_eq_true rfl) ?_
  intro X hl C E N hD hn
  show ZM G X 0 [(0, .ref v0)] [] M 0 0
  unfold fU_areTold at h
  refine zz_aload_n C 0 ddU_areTold_0 rfl rfl ?_
  obtain ⟨h1, h⟩ := gdN h
  refine zz_geti C ddU_areTold_1 fl_U_18 rfl h1 ?_
  refine zz_if_le (tgt := 11) C ddU_areTold_4 rfl (fun hc => ?_) (fun hc => ?_)
  · replace h := iteT h hc
    refine zz_iconst (v := 0) C ddU_areTold_11 (by decide) ?_
    refine zz_loc (L1 := []) [] rfl ?_
    exact zBU_areTold_12 hG C N hD hd E h
  · replace h := iteF h hc
    refine zz_iconst (v := 1) C ddU_areTold_7 (by decide) ?_
    refine zz_goto (tgt := 12) C ddU_areTold_8 rfl ?_
    refine zz_loc (L1 := []) [] rfl ?_
    exact zBU_areTold_12 hG C N hD hd E h
theorem ddA_rule_0 : decode cA_rule 0 = .ok (.aload_n 0, 1) := by decide +kernel
theorem ddA_rule_1 : decode cA_rule 1 = .ok (.getfield 28, 3) := by decide +kernel
theorem ddA_rule_4 : decode cA_rule 4 = .ok (.invokevirtual 132, 3) := by decide +kernel
theorem ddA_rule_7 : decode cA_rule 7 = .ok (.ifCond .eq 31, 3) := by decide +kernel
theorem ddA_rule_10 : decode cA_rule 10 = .ok (.iload_n 1, 1) := by decide +kernel
theorem ddA_rule_11 : decode cA_rule 11 = .ok (.ifCond .lt 27, 3) := by decide +kernel
theorem ddA_rule_14 : decode cA_rule 14 = .ok (.iload_n 1, 1) := by decide +kernel
theorem ddA_rule_15 : decode cA_rule 15 = .ok (.aload_n 0, 1) := by decide +kernel
theorem ddA_rule_16 : decode cA_rule 16 = .ok (.getfield 28, 3) := by decide +kernel
theorem ddA_rule_19 : decode cA_rule 19 = .ok (.getfield 136, 3) := by decide +kernel
theorem ddA_rule_22 : decode cA_rule 22 = .ok (.arraylength, 1) := by decide +kernel
theorem ddA_rule_23 : decode cA_rule 23 = .ok (.if_icmp .ge 15, 3) := by decide +kernel
theorem ddA_rule_26 : decode cA_rule 26 = .ok (.aload_n 0, 1) := by decide +kernel
theorem ddA_rule_27 : decode cA_rule 27 = .ok (.getfield 28, 3) := by decide +kernel
theorem ddA_rule_30 : decode cA_rule 30 = .ok (.getfield 136, 3) := by decide +kernel
theorem ddA_rule_33 : decode cA_rule 33 = .ok (.iload_n 1, 1) := by decide +kernel
theorem ddA_rule_34 : decode cA_rule 34 = .ok (.iaload, 1) := by decide +kernel
theorem ddA_rule_35 : decode cA_rule 35 = .ok (.goto 4, 3) := by decide +kernel
theorem ddA_rule_38 : decode cA_rule 38 = .ok (.iconst (-1), 1) := by decide +kernel
theorem ddA_rule_39 : decode cA_rule 39 = .ok (.ireturn, 1) := by decide +kernel
set_option maxHeartbeats 2000000 in
theorem zBA_rule_39 {G : GXM} {X : CxM} (hG : GokM G) (C : CoM G X cA_rule "HomeFreed") (N : mLM X = 2) {d : Nat} (hD : dpM X = d) (hd : 1 ≤ d)  {q : Int32 × Mem} (E : EnM G X (some .int) (some (.int q.1)) q.2 0 0) {w0 : Int32} {M : Mem} (h : BA_rule_39 w0 M = some q) : ZM G X 39 [] [.int w0] M 0 0 := by
  unfold BA_rule_39 at h
  obtain rfl := Option.some.inj h
  exact zz_iret C E ddA_rule_39
set_option maxHeartbeats 2000000 in
theorem zBA_rule_38 {G : GXM} {X : CxM} (hG : GokM G) (C : CoM G X cA_rule "HomeFreed") (N : mLM X = 2) {d : Nat} (hD : dpM X = d) (hd : 1 ≤ d)  {q : Int32 × Mem} (E : EnM G X (some .int) (some (.int q.1)) q.2 0 0) {M : Mem} (h : BA_rule_38 M = some q) : ZM G X 38 [] [] M 0 0 := by
  unfold BA_rule_38 at h
  refine zz_iconst (v := (-1)) C ddA_rule_38 (by decide) ?_
  exact zBA_rule_39 hG C N hD hd E h
set_option maxHeartbeats 2000000 in
theorem xA_rule {G : GXM} {l : Launch} (hG : GokM G) (d : Nat) (hd : 1 ≤ d) {v0 : Nat} {v1 : Int32} {M : Mem} {q : Int32 × Mem} (h : fA_rule v0 v1 M = some q) : ExM G l d 0 0 yA_rule cA_rule 2 (some .int) [.ref v0, .int v1] M (some (.int q.1)) q.2 := by
  refine ex_of hG (by decide +kernel) (Nat.le_of_ble_eq_true rfl) ?_
  intro X hl C E N hD hn
  show ZM G X 0 [(0, .ref v0), (1, .int v1)] [] M 0 0
  unfold fA_rule at h
  refine zz_aload_n C 0 ddA_rule_0 rfl rfl ?_
  obtain ⟨h1, h⟩ := gdN h
  obtain ⟨h2, h⟩ := gdN h
  refine zz_getr C ddA_rule_1 fl_A_28 rfl h1 (of_decide_eq_true h2) ?_
  obtain ⟨h4, h⟩ := gdN h
  obtain ⟨q3, hq3, h⟩ := bindN h
  refine zz_callV0 (As := []) C ddA_rule_4 wd_566 my_U_areTold mv_U_areTold ⟨_, rfl, rfl⟩ (xU_areTold hG (d - 1) (by omega) hq3) (by omega) h4 rfl rfl (Nat.le_of_ble_eq_true rfl) ?_
  refine zz_if_eq (tgt := 38) C ddA_rule_7 rfl (fun hc => ?_) (fun hc => ?_)
  · replace h := iteT h hc
    refine zz_loc (L1 := []) [] rfl ?_
    exact zBA_rule_38 hG C N hD hd E h
  · replace h := iteF h hc
    refine zz_iload_n C 1 ddA_rule_10 rfl rfl ?_
    refine zz_if_lt (tgt := 38) C ddA_rule_11 rfl (fun hc => ?_) (fun hc => ?_)
    · replace h := iteT h hc
      refine zz_loc (L1 := []) [] rfl ?_
      exact zBA_rule_38 hG C N hD hd E h
    · replace h := iteF h hc
      refine zz_iload_n C 1 ddA_rule_14 rfl rfl ?_
      refine zz_aload_n C 0 ddA_rule_15 rfl rfl ?_
      obtain ⟨h5, h⟩ := gdN h
      obtain ⟨h6, h⟩ := gdN h
      refine zz_getr C ddA_rule_16 fl_A_28 rfl h5 (of_decide_eq_true h6) ?_
      obtain ⟨h7, h⟩ := gdN h
      obtain ⟨h8, h⟩ := gdN h
      refine zz_getr C ddA_rule_19 fl_A_136 rfl h7 (of_decide_eq_true h8) ?_
      obtain ⟨h9, h⟩ := gdN h
      refine zz_alenI C ddA_rule_22 h9 ?_
      refine zz_icmp_ge (tgt := 38) C ddA_rule_23 rfl (fun hc => ?_) (fun hc => ?_)
      · replace h := iteT h hc
        refine zz_loc (L1 := []) [] rfl ?_
        exact zBA_rule_38 hG C N hD hd E h
      · replace h := iteF h hc
        refine zz_aload_n C 0 ddA_rule_26 rfl rfl ?_
        refine zz_getr C ddA_rule_27 fl_A_28 rfl h5 (of_decide_eq_true h6) ?_
        refine zz_getr C ddA_rule_30 fl_A_136 rfl h7 (of_decide_eq_true h8) ?_
        refine zz_iload_n C 1 ddA_rule_33 rfl rfl ?_
        obtain ⟨h10, h⟩ := gdN h
        refine zz_iaload C ddA_rule_34 h10 ?_
        refine zz_goto (tgt := 39) C ddA_rule_35 rfl ?_
        refine zz_loc (L1 := []) [] rfl ?_
        exact zBA_rule_39 hG C N hD hd E h
theorem ddU_isKind_0 : decode cU_isKind 0 = .ok (.iload_n 1, 1) := by decide +kernel
theorem ddU_isKind_1 : decode cU_isKind 1 = .ok (.ifCond .lt 15, 3) := by decide +kernel
theorem ddU_isKind_4 : decode cU_isKind 4 = .ok (.iload_n 1, 1) := by decide +kernel
theorem ddU_isKind_5 : decode cU_isKind 5 = .ok (.aload_n 0, 1) := by decide +kernel
theorem ddU_isKind_6 : decode cU_isKind 6 = .ok (.getfield 18, 3) := by decide +kernel
theorem ddU_isKind_9 : decode cU_isKind 9 = .ok (.if_icmp .ge 7, 3) := by decide +kernel
theorem ddU_isKind_12 : decode cU_isKind 12 = .ok (.iconst 1, 1) := by decide +kernel
theorem ddU_isKind_13 : decode cU_isKind 13 = .ok (.goto 4, 3) := by decide +kernel
theorem ddU_isKind_16 : decode cU_isKind 16 = .ok (.iconst 0, 1) := by decide +kernel
theorem ddU_isKind_17 : decode cU_isKind 17 = .ok (.ireturn, 1) := by decide +kernel
set_option maxHeartbeats 2000000 in
theorem zBU_isKind_17 {G : GXM} {X : CxM} (hG : GokM G) (C : CoM G X cU_isKind "HomeFreed$Rules") (N : mLM X = 2) {d : Nat} (hD : dpM X = d) (hd : 0 ≤ d)  {q : Int32 × Mem} (E : EnM G X (some .boolean) (some (.int q.1)) q.2 0 0) {w0 : Int32} {M : Mem} (h : BU_isKind_17 w0 M = some q) : ZM G X 17 [] [.int w0] M 0 0 := by
  unfold BU_isKind_17 at h
  obtain ⟨h1, h⟩ := gdN h
  obtain rfl := Option.some.inj h
  exact zz_zret C (of_decide_eq_true h1) E ddU_isKind_17
set_option maxHeartbeats 2000000 in
theorem zBU_isKind_16 {G : GXM} {X : CxM} (hG : GokM G) (C : CoM G X cU_isKind "HomeFreed$Rules") (N : mLM X = 2) {d : Nat} (hD : dpM X = d) (hd : 0 ≤ d)  {q : Int32 × Mem} (E : EnM G X (some .boolean) (some (.int q.1)) q.2 0 0) {M : Mem} (h : BU_isKind_16 M = some q) : ZM G X 16 [] [] M 0 0 := by
  unfold BU_isKind_16 at h
  refine zz_iconst (v := 0) C ddU_isKind_16 (by decide) ?_
  exact zBU_isKind_17 hG C N hD hd E h
set_option maxHeartbeats 2000000 in
theorem xU_isKind {G : GXM} {l : Launch} (hG : GokM G) (d : Nat) (hd : 0 ≤ d) {v0 : Nat} {v1 : Int32} {M : Mem} {q : Int32 × Mem} (h : fU_isKind v0 v1 M = some q) : ExM G l d 0 0 yU_isKind cU_isKind 2 (some .boolean) [.ref v0, .int v1] M (some (.int q.1)) q.2 := by
  refine ex_of hG (by decide +kernel) (Nat.le_of_ble_eq_true rfl) ?_
  intro X hl C E N hD hn
  show ZM G X 0 [(0, .ref v0), (1, .int v1)] [] M 0 0
  unfold fU_isKind at h
  refine zz_iload_n C 1 ddU_isKind_0 rfl rfl ?_
  refine zz_if_lt (tgt := 16) C ddU_isKind_1 rfl (fun hc => ?_) (fun hc => ?_)
  · replace h := iteT h hc
    refine zz_loc (L1 := []) [] rfl ?_
    exact zBU_isKind_16 hG C N hD hd E h
  · replace h := iteF h hc
    refine zz_iload_n C 1 ddU_isKind_4 rfl rfl ?_
    refine zz_aload_n C 0 ddU_isKind_5 rfl rfl ?_
    obtain ⟨h1, h⟩ := gdN h
    refine zz_geti C ddU_isKind_6 fl_U_18 rfl h1 ?_
    refine zz_icmp_ge (tgt := 16) C ddU_isKind_9 rfl (fun hc => ?_) (fun hc => ?_)
    · replace h := iteT h hc
      refine zz_loc (L1 := []) [] rfl ?_
      exact zBU_isKind_16 hG C N hD hd E h
    · replace h := iteF h hc
      refine zz_iconst (v := 1) C ddU_isKind_12 (by decide) ?_
      refine zz_goto (tgt := 17) C ddU_isKind_13 rfl ?_
      refine zz_loc (L1 := []) [] rfl ?_
      exact zBU_isKind_17 hG C N hD hd E h
theorem ddA_size_0 : decode cA_size 0 = .ok (.aload_n 0, 1) := by decide +kernel
theorem ddA_size_1 : decode cA_size 1 = .ok (.getfield 28, 3) := by decide +kernel
theorem ddA_size_4 : decode cA_size 4 = .ok (.iload_n 1, 1) := by decide +kernel
theorem ddA_size_5 : decode cA_size 5 = .ok (.invokevirtual 139, 3) := by decide +kernel
theorem ddA_size_8 : decode cA_size 8 = .ok (.ifCond .eq 15, 3) := by decide +kernel
theorem ddA_size_11 : decode cA_size 11 = .ok (.aload_n 0, 1) := by decide +kernel
theorem ddA_size_12 : decode cA_size 12 = .ok (.getfield 28, 3) := by decide +kernel
theorem ddA_size_15 : decode cA_size 15 = .ok (.getfield 143, 3) := by decide +kernel
theorem ddA_size_18 : decode cA_size 18 = .ok (.iload_n 1, 1) := by decide +kernel
theorem ddA_size_19 : decode cA_size 19 = .ok (.iaload, 1) := by decide +kernel
theorem ddA_size_20 : decode cA_size 20 = .ok (.goto 4, 3) := by decide +kernel
theorem ddA_size_23 : decode cA_size 23 = .ok (.iconst (-1), 1) := by decide +kernel
theorem ddA_size_24 : decode cA_size 24 = .ok (.ireturn, 1) := by decide +kernel
set_option maxHeartbeats 2000000 in
theorem zBA_size_24 {G : GXM} {X : CxM} (hG : GokM G) (C : CoM G X cA_size "HomeFreed") (N : mLM X = 2) {d : Nat} (hD : dpM X = d) (hd : 1 ≤ d)  {q : Int32 × Mem} (E : EnM G X (some .int) (some (.int q.1)) q.2 0 0) {w0 : Int32} {M : Mem} (h : BA_size_24 w0 M = some q) : ZM G X 24 [] [.int w0] M 0 0 := by
  unfold BA_size_24 at h
  obtain rfl := Option.some.inj h
  exact zz_iret C E ddA_size_24
set_option maxHeartbeats 2000000 in
theorem xA_size {G : GXM} {l : Launch} (hG : GokM G) (d : Nat) (hd : 1 ≤ d) {v0 : Nat} {v1 : Int32} {M : Mem} {q : Int32 × Mem} (h : fA_size v0 v1 M = some q) : ExM G l d 0 0 yA_size cA_size 2 (some .int) [.ref v0, .int v1] M (some (.int q.1)) q.2 := by
  refine ex_of hG (by decide +kernel) (Nat.le_of_ble_eq_true rfl) ?_
  intro X hl C E N hD hn
  show ZM G X 0 [(0, .ref v0), (1, .int v1)] [] M 0 0
  unfold fA_size at h
  refine zz_aload_n C 0 ddA_size_0 rfl rfl ?_
  obtain ⟨h1, h⟩ := gdN h
  obtain ⟨h2, h⟩ := gdN h
  refine zz_getr C ddA_size_1 fl_A_28 rfl h1 (of_decide_eq_true h2) ?_
  refine zz_iload_n C 1 ddA_size_4 rfl rfl ?_
  obtain ⟨h4, h⟩ := gdN h
  obtain ⟨q3, hq3, h⟩ := bindN h
  refine zz_callV0 (As := [.int v1]) C ddA_size_5 wd_574 my_U_isKind mv_U_isKind ⟨_, rfl, rfl⟩ (xU_isKind hG (d - 1) (by omega) hq3) (by omega) h4 rfl rfl (Nat.le_of_ble_eq_true rfl) ?_
  refine zz_if_eq (tgt := 23) C ddA_size_8 rfl (fun hc => ?_) (fun hc => ?_)
  · replace h := iteT h hc
    refine zz_iconst (v := (-1)) C ddA_size_23 (by decide) ?_
    refine zz_loc (L1 := []) [] rfl ?_
    exact zBA_size_24 hG C N hD hd E h
  · replace h := iteF h hc
    refine zz_aload_n C 0 ddA_size_11 rfl rfl ?_
    obtain ⟨h5, h⟩ := gdN h
    obtain ⟨h6, h⟩ := gdN h
    refine zz_getr C ddA_size_12 fl_A_28 rfl h5 (of_decide_eq_true h6) ?_
    obtain ⟨h7, h⟩ := gdN h
    obtain ⟨h8, h⟩ := gdN h
    refine zz_getr C ddA_size_15 fl_A_143 rfl h7 (of_decide_eq_true h8) ?_
    refine zz_iload_n C 1 ddA_size_18 rfl rfl ?_
    obtain ⟨h9, h⟩ := gdN h
    refine zz_iaload C ddA_size_19 h9 ?_
    refine zz_goto (tgt := 24) C ddA_size_20 rfl ?_
    refine zz_loc (L1 := []) [] rfl ?_
    exact zBA_size_24 hG C N hD hd E h
theorem ddH_isPage_0 : decode cH_isPage 0 = .ok (.iload_n 1, 1) := by decide +kernel
theorem ddH_isPage_1 : decode cH_isPage 1 = .ok (.ifCond .lt 20, 3) := by decide +kernel
theorem ddH_isPage_4 : decode cH_isPage 4 = .ok (.iload_n 1, 1) := by decide +kernel
theorem ddH_isPage_5 : decode cH_isPage 5 = .ok (.aload_n 0, 1) := by decide +kernel
theorem ddH_isPage_6 : decode cH_isPage 6 = .ok (.getfield 46, 3) := by decide +kernel
theorem ddH_isPage_9 : decode cH_isPage 9 = .ok (.getfield 76, 3) := by decide +kernel
theorem ddH_isPage_12 : decode cH_isPage 12 = .ok (.iconst 1, 1) := by decide +kernel
theorem ddH_isPage_13 : decode cH_isPage 13 = .ok (.iaload, 1) := by decide +kernel
theorem ddH_isPage_14 : decode cH_isPage 14 = .ok (.if_icmp .ge 7, 3) := by decide +kernel
theorem ddH_isPage_17 : decode cH_isPage 17 = .ok (.iconst 1, 1) := by decide +kernel
theorem ddH_isPage_18 : decode cH_isPage 18 = .ok (.goto 4, 3) := by decide +kernel
theorem ddH_isPage_21 : decode cH_isPage 21 = .ok (.iconst 0, 1) := by decide +kernel
theorem ddH_isPage_22 : decode cH_isPage 22 = .ok (.ireturn, 1) := by decide +kernel
set_option maxHeartbeats 2000000 in
theorem zBH_isPage_22 {G : GXM} {X : CxM} (hG : GokM G) (C : CoM G X cH_isPage "HomeFreed$Heap") (N : mLM X = 2) {d : Nat} (hD : dpM X = d) (hd : 0 ≤ d)  {q : Int32 × Mem} (E : EnM G X (some .boolean) (some (.int q.1)) q.2 0 0) {w0 : Int32} {M : Mem} (h : BH_isPage_22 w0 M = some q) : ZM G X 22 [] [.int w0] M 0 0 := by
  unfold BH_isPage_22 at h
  obtain ⟨h1, h⟩ := gdN h
  obtain rfl := Option.some.inj h
  exact zz_zret C (of_decide_eq_true h1) E ddH_isPage_22
set_option maxHeartbeats 2000000 in
theorem zBH_isPage_21 {G : GXM} {X : CxM} (hG : GokM G) (C : CoM G X cH_isPage "HomeFreed$Heap") (N : mLM X = 2) {d : Nat} (hD : dpM X = d) (hd : 0 ≤ d)  {q : Int32 × Mem} (E : EnM G X (some .boolean) (some (.int q.1)) q.2 0 0) {M : Mem} (h : BH_isPage_21 M = some q) : ZM G X 21 [] [] M 0 0 := by
  unfold BH_isPage_21 at h
  refine zz_iconst (v := 0) C ddH_isPage_21 (by decide) ?_
  exact zBH_isPage_22 hG C N hD hd E h
set_option maxHeartbeats 2000000 in
theorem xH_isPage {G : GXM} {l : Launch} (hG : GokM G) (d : Nat) (hd : 0 ≤ d) {v0 : Nat} {v1 : Int32} {M : Mem} {q : Int32 × Mem} (h : fH_isPage v0 v1 M = some q) : ExM G l d 0 0 yH_isPage cH_isPage 2 (some .boolean) [.ref v0, .int v1] M (some (.int q.1)) q.2 := by
  refine ex_of hG (by decide +kernel) (Nat.le_of_ble_eq_true rfl) ?_
  intro X hl C E N hD hn
  show ZM G X 0 [(0, .ref v0), (1, .int v1)] [] M 0 0
  unfold fH_isPage at h
  refine zz_iload_n C 1 ddH_isPage_0 rfl rfl ?_
  refine zz_if_lt (tgt := 21) C ddH_isPage_1 rfl (fun hc => ?_) (fun hc => ?_)
  · replace h := iteT h hc
    refine zz_loc (L1 := []) [] rfl ?_
    exact zBH_isPage_21 hG C N hD hd E h
  · replace h := iteF h hc
    refine zz_iload_n C 1 ddH_isPage_4 rfl rfl ?_
    refine zz_aload_n C 0 ddH_isPage_5 rfl rfl ?_
    obtain ⟨h1, h⟩ := gdN h
    obtain ⟨h2, h⟩ := gdN h
    refine zz_getr C ddH_isPage_6 fl_H_46 rfl h1 (of_decide_eq_true h2) ?_
    obtain ⟨h3, h⟩ := gdN h
    obtain ⟨h4, h⟩ := gdN h
    refine zz_getr C ddH_isPage_9 fl_H_76 rfl h3 (of_decide_eq_true h4) ?_
    refine zz_iconst (v := 1) C ddH_isPage_12 (by decide) ?_
    obtain ⟨h5, h⟩ := gdN h
    refine zz_iaload C ddH_isPage_13 h5 ?_
    refine zz_icmp_ge (tgt := 21) C ddH_isPage_14 rfl (fun hc => ?_) (fun hc => ?_)
    · replace h := iteT h hc
      refine zz_loc (L1 := []) [] rfl ?_
      exact zBH_isPage_21 hG C N hD hd E h
    · replace h := iteF h hc
      refine zz_iconst (v := 1) C ddH_isPage_17 (by decide) ?_
      refine zz_goto (tgt := 22) C ddH_isPage_18 rfl ?_
      refine zz_loc (L1 := []) [] rfl ?_
      exact zBH_isPage_22 hG C N hD hd E h
theorem ddH_listOf_0 : decode cH_listOf 0 = .ok (.iload_n 1, 1) := by decide +kernel
theorem ddH_listOf_1 : decode cH_listOf 1 = .ok (.iconst 3, 1) := by decide +kernel
theorem ddH_listOf_2 : decode cH_listOf 2 = .ok (.imul, 1) := by decide +kernel
theorem ddH_listOf_3 : decode cH_listOf 3 = .ok (.iload_n 2, 1) := by decide +kernel
theorem ddH_listOf_4 : decode cH_listOf 4 = .ok (.iadd, 1) := by decide +kernel
theorem ddH_listOf_5 : decode cH_listOf 5 = .ok (.ireturn, 1) := by decide +kernel
set_option maxHeartbeats 2000000 in
theorem xH_listOf {G : GXM} {l : Launch} (hG : GokM G) (d : Nat) (hd : 0 ≤ d) {v0 : Nat} {v1 : Int32} {v2 : Int32} {M : Mem} {q : Int32 × Mem} (h : fH_listOf v0 v1 v2 M = some q) : ExM G l d 0 0 yH_listOf cH_listOf 3 (some .int) [.ref v0, .int v1, .int v2] M (some (.int q.1)) q.2 := by
  refine ex_of hG (by decide +kernel) (Nat.le_of_ble_eq_true rfl) ?_
  intro X hl C E N hD hn
  show ZM G X 0 [(0, .ref v0), (1, .int v1), (2, .int v2)] [] M 0 0
  unfold fH_listOf at h
  refine zz_iload_n C 1 ddH_listOf_0 rfl rfl ?_
  refine zz_iconst (v := 3) C ddH_listOf_1 (by decide) ?_
  refine zz_imul C ddH_listOf_2 ?_
  refine zz_iload_n C 2 ddH_listOf_3 rfl rfl ?_
  refine zz_iadd C ddH_listOf_4 ?_
  obtain rfl := Option.some.inj h
  exact zz_iret C E ddH_listOf_5
theorem ddC_thingAt_0 : decode cC_thingAt 0 = .ok (.iload_n 1, 1) := by decide +kernel
theorem ddC_thingAt_1 : decode cC_thingAt 1 = .ok (.ifCond .lt 26, 3) := by decide +kernel
theorem ddC_thingAt_4 : decode cC_thingAt 4 = .ok (.iload_n 1, 1) := by decide +kernel
theorem ddC_thingAt_5 : decode cC_thingAt 5 = .ok (.aload_n 0, 1) := by decide +kernel
theorem ddC_thingAt_6 : decode cC_thingAt 6 = .ok (.getfield 9, 3) := by decide +kernel
theorem ddC_thingAt_9 : decode cC_thingAt 9 = .ok (.arraylength, 1) := by decide +kernel
theorem ddC_thingAt_10 : decode cC_thingAt 10 = .ok (.if_icmp .ge 17, 3) := by decide +kernel
theorem ddC_thingAt_13 : decode cC_thingAt 13 = .ok (.iload_n 2, 1) := by decide +kernel
theorem ddC_thingAt_14 : decode cC_thingAt 14 = .ok (.ifCond .lt 13, 3) := by decide +kernel
theorem ddC_thingAt_17 : decode cC_thingAt 17 = .ok (.iload_n 2, 1) := by decide +kernel
theorem ddC_thingAt_18 : decode cC_thingAt 18 = .ok (.aload_n 0, 1) := by decide +kernel
theorem ddC_thingAt_19 : decode cC_thingAt 19 = .ok (.getfield 15, 3) := by decide +kernel
theorem ddC_thingAt_22 : decode cC_thingAt 22 = .ok (.iload_n 1, 1) := by decide +kernel
theorem ddC_thingAt_23 : decode cC_thingAt 23 = .ok (.iaload, 1) := by decide +kernel
theorem ddC_thingAt_24 : decode cC_thingAt 24 = .ok (.if_icmp .lt 5, 3) := by decide +kernel
theorem ddC_thingAt_27 : decode cC_thingAt 27 = .ok (.iconst (-1), 1) := by decide +kernel
theorem ddC_thingAt_28 : decode cC_thingAt 28 = .ok (.ireturn, 1) := by decide +kernel
theorem ddC_thingAt_29 : decode cC_thingAt 29 = .ok (.aload_n 0, 1) := by decide +kernel
theorem ddC_thingAt_30 : decode cC_thingAt 30 = .ok (.getfield 9, 3) := by decide +kernel
theorem ddC_thingAt_33 : decode cC_thingAt 33 = .ok (.iload_n 1, 1) := by decide +kernel
theorem ddC_thingAt_34 : decode cC_thingAt 34 = .ok (.iaload, 1) := by decide +kernel
theorem ddC_thingAt_35 : decode cC_thingAt 35 = .ok (.istore_n 3, 1) := by decide +kernel
theorem ddC_thingAt_36 : decode cC_thingAt 36 = .ok (.iconst 0, 1) := by decide +kernel
theorem ddC_thingAt_37 : decode cC_thingAt 37 = .ok (.istore 4, 2) := by decide +kernel
theorem ddC_thingAt_39 : decode cC_thingAt 39 = .ok (.iload 4, 2) := by decide +kernel
theorem ddC_thingAt_41 : decode cC_thingAt 41 = .ok (.iload_n 2, 1) := by decide +kernel
theorem ddC_thingAt_42 : decode cC_thingAt 42 = .ok (.if_icmp .ge 21, 3) := by decide +kernel
theorem ddC_thingAt_45 : decode cC_thingAt 45 = .ok (.iload_n 3, 1) := by decide +kernel
theorem ddC_thingAt_46 : decode cC_thingAt 46 = .ok (.iconst (-1), 1) := by decide +kernel
theorem ddC_thingAt_47 : decode cC_thingAt 47 = .ok (.if_icmp .eq 16, 3) := by decide +kernel
theorem ddC_thingAt_50 : decode cC_thingAt 50 = .ok (.aload_n 0, 1) := by decide +kernel
theorem ddC_thingAt_51 : decode cC_thingAt 51 = .ok (.getfield 18, 3) := by decide +kernel
theorem ddC_thingAt_54 : decode cC_thingAt 54 = .ok (.iload_n 3, 1) := by decide +kernel
theorem ddC_thingAt_55 : decode cC_thingAt 55 = .ok (.iaload, 1) := by decide +kernel
theorem ddC_thingAt_56 : decode cC_thingAt 56 = .ok (.istore_n 3, 1) := by decide +kernel
theorem ddC_thingAt_57 : decode cC_thingAt 57 = .ok (.iinc 4 1, 3) := by decide +kernel
theorem ddC_thingAt_60 : decode cC_thingAt 60 = .ok (.goto (-21), 3) := by decide +kernel
theorem ddC_thingAt_63 : decode cC_thingAt 63 = .ok (.iload_n 3, 1) := by decide +kernel
theorem ddC_thingAt_64 : decode cC_thingAt 64 = .ok (.ireturn, 1) := by decide +kernel
set_option maxHeartbeats 2000000 in
theorem zBC_thingAt_63 {G : GXM} {X : CxM} (hG : GokM G) (C : CoM G X cC_thingAt "HomeFreed$Chains") (N : mLM X = 5) {d : Nat} (hD : dpM X = d) (hd : 0 ≤ d)  {q : Int32 × Mem} (E : EnM G X (some .int) (some (.int q.1)) q.2 0 0) {v3 : Int32} {M : Mem} (h : BC_thingAt_63 v3 M = some q) : ZM G X 63 [(3, .int v3)] [] M 0 0 := by
  unfold BC_thingAt_63 at h
  refine zz_iload_n C 0 ddC_thingAt_63 rfl rfl ?_
  obtain rfl := Option.some.inj h
  exact zz_iret C E ddC_thingAt_64
set_option maxHeartbeats 2000000 in
theorem zBC_thingAt_39 {G : GXM} {X : CxM} (hG : GokM G) (C : CoM G X cC_thingAt "HomeFreed$Chains") (N : mLM X = 5) {d : Nat} (hD : dpM X = d) (hd : 0 ≤ d) {v0 : Nat} {v2 : Int32} {K : Nat → Int32 → Int32 → Int32 → Mem → Option ((Int32 × Mem))} {q : (Int32 × Mem)} (hK : ∀ (v3 : Int32) (v4 : Int32) (M : Mem), K v0 v2 v3 v4 M = some q → ZM G X 39 [(0, .ref v0), (2, .int v2), (3, .int v3), (4, .int v4)] [] M 0 0) (hx0 : ∀ y : Int32 × Mem, q = y → ZM G X 63 [(3, .int y.1)] [] y.2 0 0) {v3 : Int32} {v4 : Int32} {M : Mem} (h : BC_thingAt_39 K v0 v2 v3 v4 M = some q) : ZM G X 39 [(0, .ref v0), (2, .int v2), (3, .int v3), (4, .int v4)] [] M 0 0 := by
  unfold BC_thingAt_39 at h
  refine zz_iload C 3 ddC_thingAt_39 rfl ?_
  refine zz_iload_n C 1 ddC_thingAt_41 rfl rfl ?_
  refine zz_icmp_ge (tgt := 63) C ddC_thingAt_42 rfl (fun hc => ?_) (fun hc => ?_)
  · replace h := iteT h hc
    refine zz_loc (L1 := [(3, .int v3)]) [2] rfl ?_
    exact hx0 _ (Option.some.inj h).symm
  · replace h := iteF h hc
    refine zz_iload_n C 2 ddC_thingAt_45 rfl rfl ?_
    refine zz_iconst (v := (-1)) C ddC_thingAt_46 (by decide) ?_
    refine zz_icmp_eq (tgt := 63) C ddC_thingAt_47 rfl (fun hc => ?_) (fun hc => ?_)
    · replace h := iteT h hc
      refine zz_loc (L1 := [(3, .int v3)]) [2] rfl ?_
      exact hx0 _ (Option.some.inj h).symm
    · replace h := iteF h hc
      refine zz_aload_n C 0 ddC_thingAt_50 rfl rfl ?_
      obtain ⟨h1, h⟩ := gdN h
      obtain ⟨h2, h⟩ := gdN h
      refine zz_getr C ddC_thingAt_51 fl_C_18 rfl h1 (of_decide_eq_true h2) ?_
      refine zz_iload_n C 2 ddC_thingAt_54 rfl rfl ?_
      obtain ⟨h3, h⟩ := gdN h
      refine zz_iaload C ddC_thingAt_55 h3 ?_
      refine zz_istore_n (L1 := [(3, .int (giM M (grM M v0 2) (Int32.toNatClampNeg v3))), (0, .ref v0), (2, .int v2), (4, .int v4)]) C ddC_thingAt_56 rfl N (by decide) rfl ?_
      refine zz_iinc (v := v4 + 1) (L1 := [(4, .int (v4 + 1)), (3, .int (giM M (grM M v0 2) (Int32.toNatClampNeg v3))), (0, .ref v0), (2, .int v2)]) C 3 ddC_thingAt_57 rfl rfl N (by decide) rfl ?_
      refine zz_goto (tgt := 39) C ddC_thingAt_60 rfl ?_
      refine zz_loc (L1 := [(0, .ref v0), (2, .int v2), (3, .int (giM M (grM M v0 2) (Int32.toNatClampNeg v3))), (4, .int (v4 + 1))]) [2, 3, 1, 0] rfl ?_
      exact hK _ _ _ h
set_option maxHeartbeats 2000000 in
theorem zLC_thingAt_39 {G : GXM} {X : CxM} (hG : GokM G) (C : CoM G X cC_thingAt "HomeFreed$Chains") (N : mLM X = 5) {d : Nat} (hD : dpM X = d) (hd : 0 ≤ d) {v0 : Nat} {v2 : Int32} {q : (Int32 × Mem)} : ∀ (f : Nat) (v3 : Int32) (v4 : Int32) (M : Mem), LC_thingAt_39 f v0 v2 v3 v4 M = some q → (hx0 : ∀ y : Int32 × Mem, q = y → ZM G X 63 [(3, .int y.1)] [] y.2 0 0) → ZM G X 39 [(0, .ref v0), (2, .int v2), (3, .int v3), (4, .int v4)] [] M 0 0 := by
  intro f
  induction f with
  | zero => intro v3 v4 M h; cases h
  | succ f ih =>
    intro v3 v4 M h hx0
    exact zBC_thingAt_39 hG C N hD hd (K := LC_thingAt_39 f) (q := q) (fun v3 v4 M h => ih v3 v4 M h hx0) hx0 h
set_option maxHeartbeats 2000000 in
theorem zBC_thingAt_27 {G : GXM} {X : CxM} (hG : GokM G) (C : CoM G X cC_thingAt "HomeFreed$Chains") (N : mLM X = 5) {d : Nat} (hD : dpM X = d) (hd : 0 ≤ d)  {q : Int32 × Mem} (E : EnM G X (some .int) (some (.int q.1)) q.2 0 0) {M : Mem} (h : BC_thingAt_27 M = some q) : ZM G X 27 [] [] M 0 0 := by
  unfold BC_thingAt_27 at h
  refine zz_iconst (v := (-1)) C ddC_thingAt_27 (by decide) ?_
  obtain rfl := Option.some.inj h
  exact zz_iret C E ddC_thingAt_28
set_option maxHeartbeats 2000000 in
theorem xC_thingAt {G : GXM} {l : Launch} (hG : GokM G) (d : Nat) (hd : 0 ≤ d) {v0 : Nat} {v1 : Int32} {v2 : Int32} {M : Mem} {q : Int32 × Mem} (h : fC_thingAt v0 v1 v2 M = some q) : ExM G l d 0 0 yC_thingAt cC_thingAt 5 (some .int) [.ref v0, .int v1, .int v2] M (some (.int q.1)) q.2 := by
  refine ex_of hG (by decide +kernel) (Nat.le_of_ble_eq_true rfl) ?_
  intro X hl C E N hD hn
  show ZM G X 0 [(0, .ref v0), (1, .int v1), (2, .int v2)] [] M 0 0
  unfold fC_thingAt at h
  refine zz_iload_n C 1 ddC_thingAt_0 rfl rfl ?_
  refine zz_if_lt (tgt := 27) C ddC_thingAt_1 rfl (fun hc => ?_) (fun hc => ?_)
  · replace h := iteT h hc
    refine zz_loc (L1 := []) [] rfl ?_
    exact zBC_thingAt_27 hG C N hD hd E h
  · replace h := iteF h hc
    refine zz_iload_n C 1 ddC_thingAt_4 rfl rfl ?_
    refine zz_aload_n C 0 ddC_thingAt_5 rfl rfl ?_
    obtain ⟨h1, h⟩ := gdN h
    obtain ⟨h2, h⟩ := gdN h
    refine zz_getr C ddC_thingAt_6 fl_C_9 rfl h1 (of_decide_eq_true h2) ?_
    obtain ⟨h3, h⟩ := gdN h
    refine zz_alenI C ddC_thingAt_9 h3 ?_
    refine zz_icmp_ge (tgt := 27) C ddC_thingAt_10 rfl (fun hc => ?_) (fun hc => ?_)
    · replace h := iteT h hc
      refine zz_loc (L1 := []) [] rfl ?_
      exact zBC_thingAt_27 hG C N hD hd E h
    · replace h := iteF h hc
      refine zz_iload_n C 2 ddC_thingAt_13 rfl rfl ?_
      refine zz_if_lt (tgt := 27) C ddC_thingAt_14 rfl (fun hc => ?_) (fun hc => ?_)
      · replace h := iteT h hc
        refine zz_loc (L1 := []) [] rfl ?_
        exact zBC_thingAt_27 hG C N hD hd E h
      · replace h := iteF h hc
        refine zz_iload_n C 2 ddC_thingAt_17 rfl rfl ?_
        refine zz_aload_n C 0 ddC_thingAt_18 rfl rfl ?_
        obtain ⟨h4, h⟩ := gdN h
        refine zz_getr C ddC_thingAt_19 fl_C_15 rfl h1 (of_decide_eq_true h4) ?_
        refine zz_iload_n C 1 ddC_thingAt_22 rfl rfl ?_
        obtain ⟨h5, h⟩ := gdN h
        refine zz_iaload C ddC_thingAt_23 h5 ?_
        refine zz_icmp_lt (tgt := 29) C ddC_thingAt_24 rfl (fun hc => ?_) (fun hc => ?_)
        · replace h := iteT h hc
          refine zz_aload_n C 0 ddC_thingAt_29 rfl rfl ?_
          refine zz_getr C ddC_thingAt_30 fl_C_9 rfl h1 (of_decide_eq_true h2) ?_
          refine zz_iload_n C 1 ddC_thingAt_33 rfl rfl ?_
          obtain ⟨h6, h⟩ := gdN h
          refine zz_iaload C ddC_thingAt_34 h6 ?_
          refine zz_istore_n (L1 := [(3, .int (giM M (grM M v0 0) (Int32.toNatClampNeg v1))), (0, .ref v0), (1, .int v1), (2, .int v2)]) C ddC_thingAt_35 rfl N (by decide) rfl ?_
          refine zz_iconst (v := 0) C ddC_thingAt_36 (by decide) ?_
          refine zz_istore (L1 := [(4, .int 0), (3, .int (giM M (grM M v0 0) (Int32.toNatClampNeg v1))), (0, .ref v0), (1, .int v1), (2, .int v2)]) C ddC_thingAt_37 N (by decide) rfl ?_
          refine zz_loc (L1 := [(0, .ref v0), (2, .int v2), (3, .int (giM M (grM M v0 0) (Int32.toNatClampNeg v1))), (4, .int 0)]) [2, 4, 1, 0] rfl ?_
          obtain ⟨q7, hq7, h⟩ := bindN h
          refine zLC_thingAt_39 hG C N hD hd 1000000 _ _ _ hq7 ?_
          · intro y8 eq7; subst eq7
            exact zBC_thingAt_63 hG C N hD hd E h
        · replace h := iteF h hc
          refine zz_loc (L1 := []) [] rfl ?_
          exact zBC_thingAt_27 hG C N hD hd E h
theorem ddH_ownNumber_0 : decode cH_ownNumber 0 = .ok (.iload_n 1, 1) := by decide +kernel
theorem ddH_ownNumber_1 : decode cH_ownNumber 1 = .ok (.iconst (-1), 1) := by decide +kernel
theorem ddH_ownNumber_2 : decode cH_ownNumber 2 = .ok (.if_icmp .ne 7, 3) := by decide +kernel
theorem ddH_ownNumber_5 : decode cH_ownNumber 5 = .ok (.iconst (-1), 1) := by decide +kernel
theorem ddH_ownNumber_6 : decode cH_ownNumber 6 = .ok (.goto 7, 3) := by decide +kernel
theorem ddH_ownNumber_9 : decode cH_ownNumber 9 = .ok (.iload_n 1, 1) := by decide +kernel
theorem ddH_ownNumber_10 : decode cH_ownNumber 10 = .ok (.bipush 40, 2) := by decide +kernel
theorem ddH_ownNumber_12 : decode cH_ownNumber 12 = .ok (.irem, 1) := by decide +kernel
theorem ddH_ownNumber_13 : decode cH_ownNumber 13 = .ok (.ireturn, 1) := by decide +kernel
set_option maxHeartbeats 2000000 in
theorem zBH_ownNumber_13 {G : GXM} {X : CxM} (hG : GokM G) (C : CoM G X cH_ownNumber "HomeFreed$Heap") (N : mLM X = 2) {d : Nat} (hD : dpM X = d) (hd : 0 ≤ d)  {q : Int32 × Mem} (E : EnM G X (some .int) (some (.int q.1)) q.2 0 0) {w0 : Int32} {M : Mem} (h : BH_ownNumber_13 w0 M = some q) : ZM G X 13 [] [.int w0] M 0 0 := by
  unfold BH_ownNumber_13 at h
  obtain rfl := Option.some.inj h
  exact zz_iret C E ddH_ownNumber_13
set_option maxHeartbeats 2000000 in
theorem xH_ownNumber {G : GXM} {l : Launch} (hG : GokM G) (d : Nat) (hd : 0 ≤ d) {v0 : Nat} {v1 : Int32} {M : Mem} {q : Int32 × Mem} (h : fH_ownNumber v0 v1 M = some q) : ExM G l d 0 0 yH_ownNumber cH_ownNumber 2 (some .int) [.ref v0, .int v1] M (some (.int q.1)) q.2 := by
  refine ex_of hG (by decide +kernel) (Nat.le_of_ble_eq_true rfl) ?_
  intro X hl C E N hD hn
  show ZM G X 0 [(0, .ref v0), (1, .int v1)] [] M 0 0
  unfold fH_ownNumber at h
  refine zz_iload_n C 1 ddH_ownNumber_0 rfl rfl ?_
  refine zz_iconst (v := (-1)) C ddH_ownNumber_1 (by decide) ?_
  refine zz_icmp_ne (tgt := 9) C ddH_ownNumber_2 rfl (fun hc => ?_) (fun hc => ?_)
  · replace h := iteF h hc
    refine zz_iload_n C 1 ddH_ownNumber_9 rfl rfl ?_
    refine zz_bipush (v := 40) C ddH_ownNumber_10 (by decide) ?_
    refine zz_irem C ddH_ownNumber_12 (by decide) ?_
    refine zz_loc (L1 := []) [] rfl ?_
    exact zBH_ownNumber_13 hG C N hD hd E h
  · replace h := iteT h hc
    refine zz_iconst (v := (-1)) C ddH_ownNumber_5 (by decide) ?_
    refine zz_goto (tgt := 13) C ddH_ownNumber_6 rfl ?_
    refine zz_loc (L1 := []) [] rfl ?_
    exact zBH_ownNumber_13 hG C N hD hd E h
theorem ddA_list_0 : decode cA_list 0 = .ok (.aload_n 0, 1) := by decide +kernel
theorem ddA_list_1 : decode cA_list 1 = .ok (.getfield 55, 3) := by decide +kernel
theorem ddA_list_4 : decode cA_list 4 = .ok (.iload_n 1, 1) := by decide +kernel
theorem ddA_list_5 : decode cA_list 5 = .ok (.invokevirtual 146, 3) := by decide +kernel
theorem ddA_list_8 : decode cA_list 8 = .ok (.ifCond .eq 12, 3) := by decide +kernel
theorem ddA_list_11 : decode cA_list 11 = .ok (.iload_n 2, 1) := by decide +kernel
theorem ddA_list_12 : decode cA_list 12 = .ok (.ifCond .lt 8, 3) := by decide +kernel
theorem ddA_list_15 : decode cA_list 15 = .ok (.iload_n 2, 1) := by decide +kernel
theorem ddA_list_16 : decode cA_list 16 = .ok (.iconst 2, 1) := by decide +kernel
theorem ddA_list_17 : decode cA_list 17 = .ok (.if_icmp .le 5, 3) := by decide +kernel
theorem ddA_list_20 : decode cA_list 20 = .ok (.iconst (-1), 1) := by decide +kernel
theorem ddA_list_21 : decode cA_list 21 = .ok (.ireturn, 1) := by decide +kernel
theorem ddA_list_22 : decode cA_list 22 = .ok (.aload_n 0, 1) := by decide +kernel
theorem ddA_list_23 : decode cA_list 23 = .ok (.getfield 55, 3) := by decide +kernel
theorem ddA_list_26 : decode cA_list 26 = .ok (.aload_n 0, 1) := by decide +kernel
theorem ddA_list_27 : decode cA_list 27 = .ok (.getfield 55, 3) := by decide +kernel
theorem ddA_list_30 : decode cA_list 30 = .ok (.getfield 172, 3) := by decide +kernel
theorem ddA_list_33 : decode cA_list 33 = .ok (.aload_n 0, 1) := by decide +kernel
theorem ddA_list_34 : decode cA_list 34 = .ok (.getfield 55, 3) := by decide +kernel
theorem ddA_list_37 : decode cA_list 37 = .ok (.iload_n 1, 1) := by decide +kernel
theorem ddA_list_38 : decode cA_list 38 = .ok (.iload_n 2, 1) := by decide +kernel
theorem ddA_list_39 : decode cA_list 39 = .ok (.invokevirtual 176, 3) := by decide +kernel
theorem ddA_list_42 : decode cA_list 42 = .ok (.iload_n 3, 1) := by decide +kernel
theorem ddA_list_43 : decode cA_list 43 = .ok (.invokevirtual 179, 3) := by decide +kernel
theorem ddA_list_46 : decode cA_list 46 = .ok (.invokevirtual 184, 3) := by decide +kernel
theorem ddA_list_49 : decode cA_list 49 = .ok (.ireturn, 1) := by decide +kernel
set_option maxHeartbeats 2000000 in
theorem zBA_list_20 {G : GXM} {X : CxM} (hG : GokM G) (C : CoM G X cA_list "HomeFreed") (N : mLM X = 4) {d : Nat} (hD : dpM X = d) (hd : 1 ≤ d)  {q : Int32 × Mem} (E : EnM G X (some .int) (some (.int q.1)) q.2 0 0) {M : Mem} (h : BA_list_20 M = some q) : ZM G X 20 [] [] M 0 0 := by
  unfold BA_list_20 at h
  refine zz_iconst (v := (-1)) C ddA_list_20 (by decide) ?_
  obtain rfl := Option.some.inj h
  exact zz_iret C E ddA_list_21
set_option maxHeartbeats 2000000 in
theorem xA_list {G : GXM} {l : Launch} (hG : GokM G) (d : Nat) (hd : 1 ≤ d) {v0 : Nat} {v1 : Int32} {v2 : Int32} {v3 : Int32} {M : Mem} {q : Int32 × Mem} (h : fA_list v0 v1 v2 v3 M = some q) : ExM G l d 0 0 yA_list cA_list 4 (some .int) [.ref v0, .int v1, .int v2, .int v3] M (some (.int q.1)) q.2 := by
  refine ex_of hG (by decide +kernel) (Nat.le_of_ble_eq_true rfl) ?_
  intro X hl C E N hD hn
  show ZM G X 0 [(0, .ref v0), (1, .int v1), (2, .int v2), (3, .int v3)] [] M 0 0
  unfold fA_list at h
  refine zz_aload_n C 0 ddA_list_0 rfl rfl ?_
  obtain ⟨h1, h⟩ := gdN h
  obtain ⟨h2, h⟩ := gdN h
  refine zz_getr C ddA_list_1 fl_A_55 rfl h1 (of_decide_eq_true h2) ?_
  refine zz_iload_n C 1 ddA_list_4 rfl rfl ?_
  obtain ⟨h4, h⟩ := gdN h
  obtain ⟨q3, hq3, h⟩ := bindN h
  refine zz_callV0 (As := [.int v1]) C ddA_list_5 wd_582 my_H_isPage mv_H_isPage ⟨_, rfl, rfl⟩ (xH_isPage hG (d - 1) (by omega) hq3) (by omega) h4 rfl rfl (Nat.le_of_ble_eq_true rfl) ?_
  refine zz_if_eq (tgt := 20) C ddA_list_8 rfl (fun hc => ?_) (fun hc => ?_)
  · replace h := iteT h hc
    refine zz_loc (L1 := []) [] rfl ?_
    exact zBA_list_20 hG C N hD hd E h
  · replace h := iteF h hc
    refine zz_iload_n C 2 ddA_list_11 rfl rfl ?_
    refine zz_if_lt (tgt := 20) C ddA_list_12 rfl (fun hc => ?_) (fun hc => ?_)
    · replace h := iteT h hc
      refine zz_loc (L1 := []) [] rfl ?_
      exact zBA_list_20 hG C N hD hd E h
    · replace h := iteF h hc
      refine zz_iload_n C 2 ddA_list_15 rfl rfl ?_
      refine zz_iconst (v := 2) C ddA_list_16 (by decide) ?_
      refine zz_icmp_le (tgt := 22) C ddA_list_17 rfl (fun hc => ?_) (fun hc => ?_)
      · replace h := iteT h hc
        refine zz_aload_n C 0 ddA_list_22 rfl rfl ?_
        obtain ⟨h5, h⟩ := gdN h
        obtain ⟨h6, h⟩ := gdN h
        refine zz_getr C ddA_list_23 fl_A_55 rfl h5 (of_decide_eq_true h6) ?_
        refine zz_aload_n C 0 ddA_list_26 rfl rfl ?_
        refine zz_getr C ddA_list_27 fl_A_55 rfl h5 (of_decide_eq_true h6) ?_
        obtain ⟨h7, h⟩ := gdN h
        obtain ⟨h8, h⟩ := gdN h
        refine zz_getr C ddA_list_30 fl_A_172 rfl h7 (of_decide_eq_true h8) ?_
        refine zz_aload_n C 0 ddA_list_33 rfl rfl ?_
        refine zz_getr C ddA_list_34 fl_A_55 rfl h5 (of_decide_eq_true h6) ?_
        refine zz_iload_n C 1 ddA_list_37 rfl rfl ?_
        refine zz_iload_n C 2 ddA_list_38 rfl rfl ?_
        obtain ⟨q9, hq9, h⟩ := bindN h
        refine zz_callV0 (As := [.int v1, .int v2]) C ddA_list_39 wd_586 my_H_listOf mv_H_listOf ⟨_, rfl, rfl⟩ (xH_listOf hG (d - 1) (by omega) hq9) (by omega) h7 rfl rfl (Nat.le_of_ble_eq_true rfl) ?_
        refine zz_iload_n C 3 ddA_list_42 rfl rfl ?_
        obtain ⟨h11, h⟩ := gdN h
        obtain ⟨q10, hq10, h⟩ := bindN h
        refine zz_callV0 (As := [.int q9.1, .int v3]) C ddA_list_43 wd_590 my_C_thingAt mv_C_thingAt ⟨_, rfl, rfl⟩ (xC_thingAt hG (d - 1) (by omega) hq10) (by omega) h11 rfl rfl (Nat.le_of_ble_eq_true rfl) ?_
        obtain ⟨h13, h⟩ := gdN h
        obtain ⟨q12, hq12, h⟩ := bindN h
        refine zz_callV0 (As := [.int q10.1]) C ddA_list_46 wd_594 my_H_ownNumber mv_H_ownNumber ⟨_, rfl, rfl⟩ (xH_ownNumber hG (d - 1) (by omega) hq12) (by omega) h13 rfl rfl (Nat.le_of_ble_eq_true rfl) ?_
        obtain rfl := Option.some.inj h
        exact zz_iret C E ddA_list_49
      · replace h := iteF h hc
        refine zz_loc (L1 := []) [] rfl ?_
        exact zBA_list_20 hG C N hD hd E h
theorem ddH_isThread_0 : decode cH_isThread 0 = .ok (.iload_n 1, 1) := by decide +kernel
theorem ddH_isThread_1 : decode cH_isThread 1 = .ok (.ifCond .lt 20, 3) := by decide +kernel
theorem ddH_isThread_4 : decode cH_isThread 4 = .ok (.iload_n 1, 1) := by decide +kernel
theorem ddH_isThread_5 : decode cH_isThread 5 = .ok (.aload_n 0, 1) := by decide +kernel
theorem ddH_isThread_6 : decode cH_isThread 6 = .ok (.getfield 46, 3) := by decide +kernel
theorem ddH_isThread_9 : decode cH_isThread 9 = .ok (.getfield 76, 3) := by decide +kernel
theorem ddH_isThread_12 : decode cH_isThread 12 = .ok (.iconst 0, 1) := by decide +kernel
theorem ddH_isThread_13 : decode cH_isThread 13 = .ok (.iaload, 1) := by decide +kernel
theorem ddH_isThread_14 : decode cH_isThread 14 = .ok (.if_icmp .ge 7, 3) := by decide +kernel
theorem ddH_isThread_17 : decode cH_isThread 17 = .ok (.iconst 1, 1) := by decide +kernel
theorem ddH_isThread_18 : decode cH_isThread 18 = .ok (.goto 4, 3) := by decide +kernel
theorem ddH_isThread_21 : decode cH_isThread 21 = .ok (.iconst 0, 1) := by decide +kernel
theorem ddH_isThread_22 : decode cH_isThread 22 = .ok (.ireturn, 1) := by decide +kernel
set_option maxHeartbeats 2000000 in
theorem zBH_isThread_22 {G : GXM} {X : CxM} (hG : GokM G) (C : CoM G X cH_isThread "HomeFreed$Heap") (N : mLM X = 2) {d : Nat} (hD : dpM X = d) (hd : 0 ≤ d)  {q : Int32 × Mem} (E : EnM G X (some .boolean) (some (.int q.1)) q.2 0 0) {w0 : Int32} {M : Mem} (h : BH_isThread_22 w0 M = some q) : ZM G X 22 [] [.int w0] M 0 0 := by
  unfold BH_isThread_22 at h
  obtain ⟨h1, h⟩ := gdN h
  obtain rfl := Option.some.inj h
  exact zz_zret C (of_decide_eq_true h1) E ddH_isThread_22
set_option maxHeartbeats 2000000 in
theorem zBH_isThread_21 {G : GXM} {X : CxM} (hG : GokM G) (C : CoM G X cH_isThread "HomeFreed$Heap") (N : mLM X = 2) {d : Nat} (hD : dpM X = d) (hd : 0 ≤ d)  {q : Int32 × Mem} (E : EnM G X (some .boolean) (some (.int q.1)) q.2 0 0) {M : Mem} (h : BH_isThread_21 M = some q) : ZM G X 21 [] [] M 0 0 := by
  unfold BH_isThread_21 at h
  refine zz_iconst (v := 0) C ddH_isThread_21 (by decide) ?_
  exact zBH_isThread_22 hG C N hD hd E h
set_option maxHeartbeats 2000000 in
theorem xH_isThread {G : GXM} {l : Launch} (hG : GokM G) (d : Nat) (hd : 0 ≤ d) {v0 : Nat} {v1 : Int32} {M : Mem} {q : Int32 × Mem} (h : fH_isThread v0 v1 M = some q) : ExM G l d 0 0 yH_isThread cH_isThread 2 (some .boolean) [.ref v0, .int v1] M (some (.int q.1)) q.2 := by
  refine ex_of hG (by decide +kernel) (Nat.le_of_ble_eq_true rfl) ?_
  intro X hl C E N hD hn
  show ZM G X 0 [(0, .ref v0), (1, .int v1)] [] M 0 0
  unfold fH_isThread at h
  refine zz_iload_n C 1 ddH_isThread_0 rfl rfl ?_
  refine zz_if_lt (tgt := 21) C ddH_isThread_1 rfl (fun hc => ?_) (fun hc => ?_)
  · replace h := iteT h hc
    refine zz_loc (L1 := []) [] rfl ?_
    exact zBH_isThread_21 hG C N hD hd E h
  · replace h := iteF h hc
    refine zz_iload_n C 1 ddH_isThread_4 rfl rfl ?_
    refine zz_aload_n C 0 ddH_isThread_5 rfl rfl ?_
    obtain ⟨h1, h⟩ := gdN h
    obtain ⟨h2, h⟩ := gdN h
    refine zz_getr C ddH_isThread_6 fl_H_46 rfl h1 (of_decide_eq_true h2) ?_
    obtain ⟨h3, h⟩ := gdN h
    obtain ⟨h4, h⟩ := gdN h
    refine zz_getr C ddH_isThread_9 fl_H_76 rfl h3 (of_decide_eq_true h4) ?_
    refine zz_iconst (v := 0) C ddH_isThread_12 (by decide) ?_
    obtain ⟨h5, h⟩ := gdN h
    refine zz_iaload C ddH_isThread_13 h5 ?_
    refine zz_icmp_ge (tgt := 21) C ddH_isThread_14 rfl (fun hc => ?_) (fun hc => ?_)
    · replace h := iteT h hc
      refine zz_loc (L1 := []) [] rfl ?_
      exact zBH_isThread_21 hG C N hD hd E h
    · replace h := iteF h hc
      refine zz_iconst (v := 1) C ddH_isThread_17 (by decide) ?_
      refine zz_goto (tgt := 22) C ddH_isThread_18 rfl ?_
      refine zz_loc (L1 := []) [] rfl ?_
      exact zBH_isThread_22 hG C N hD hd E h
theorem ddH_isLiving_0 : decode cH_isLiving 0 = .ok (.aload_n 0, 1) := by decide +kernel
theorem ddH_isLiving_1 : decode cH_isLiving 1 = .ok (.iload_n 1, 1) := by decide +kernel
theorem ddH_isLiving_2 : decode cH_isLiving 2 = .ok (.invokevirtual 81, 3) := by decide +kernel
theorem ddH_isLiving_5 : decode cH_isLiving 5 = .ok (.ifCond .eq 17, 3) := by decide +kernel
theorem ddH_isLiving_8 : decode cH_isLiving 8 = .ok (.aload_n 0, 1) := by decide +kernel
theorem ddH_isLiving_9 : decode cH_isLiving 9 = .ok (.getfield 33, 3) := by decide +kernel
theorem ddH_isLiving_12 : decode cH_isLiving 12 = .ok (.iload_n 1, 1) := by decide +kernel
theorem ddH_isLiving_13 : decode cH_isLiving 13 = .ok (.iaload, 1) := by decide +kernel
theorem ddH_isLiving_14 : decode cH_isLiving 14 = .ok (.iconst 1, 1) := by decide +kernel
theorem ddH_isLiving_15 : decode cH_isLiving 15 = .ok (.if_icmp .ne 7, 3) := by decide +kernel
theorem ddH_isLiving_18 : decode cH_isLiving 18 = .ok (.iconst 1, 1) := by decide +kernel
theorem ddH_isLiving_19 : decode cH_isLiving 19 = .ok (.goto 4, 3) := by decide +kernel
theorem ddH_isLiving_22 : decode cH_isLiving 22 = .ok (.iconst 0, 1) := by decide +kernel
theorem ddH_isLiving_23 : decode cH_isLiving 23 = .ok (.ireturn, 1) := by decide +kernel
set_option maxHeartbeats 2000000 in
theorem zBH_isLiving_23 {G : GXM} {X : CxM} (hG : GokM G) (C : CoM G X cH_isLiving "HomeFreed$Heap") (N : mLM X = 2) {d : Nat} (hD : dpM X = d) (hd : 1 ≤ d)  {q : Int32 × Mem} (E : EnM G X (some .boolean) (some (.int q.1)) q.2 0 0) {w0 : Int32} {M : Mem} (h : BH_isLiving_23 w0 M = some q) : ZM G X 23 [] [.int w0] M 0 0 := by
  unfold BH_isLiving_23 at h
  obtain ⟨h1, h⟩ := gdN h
  obtain rfl := Option.some.inj h
  exact zz_zret C (of_decide_eq_true h1) E ddH_isLiving_23
set_option maxHeartbeats 2000000 in
theorem zBH_isLiving_22 {G : GXM} {X : CxM} (hG : GokM G) (C : CoM G X cH_isLiving "HomeFreed$Heap") (N : mLM X = 2) {d : Nat} (hD : dpM X = d) (hd : 1 ≤ d)  {q : Int32 × Mem} (E : EnM G X (some .boolean) (some (.int q.1)) q.2 0 0) {M : Mem} (h : BH_isLiving_22 M = some q) : ZM G X 22 [] [] M 0 0 := by
  unfold BH_isLiving_22 at h
  refine zz_iconst (v := 0) C ddH_isLiving_22 (by decide) ?_
  exact zBH_isLiving_23 hG C N hD hd E h
set_option maxHeartbeats 2000000 in
theorem xH_isLiving {G : GXM} {l : Launch} (hG : GokM G) (d : Nat) (hd : 1 ≤ d) {v0 : Nat} {v1 : Int32} {M : Mem} {q : Int32 × Mem} (h : fH_isLiving v0 v1 M = some q) : ExM G l d 0 0 yH_isLiving cH_isLiving 2 (some .boolean) [.ref v0, .int v1] M (some (.int q.1)) q.2 := by
  refine ex_of hG (by decide +kernel) (Nat.le_of_ble_eq_true rfl) ?_
  intro X hl C E N hD hn
  show ZM G X 0 [(0, .ref v0), (1, .int v1)] [] M 0 0
  unfold fH_isLiving at h
  refine zz_aload_n C 0 ddH_isLiving_0 rfl rfl ?_
  refine zz_iload_n C 1 ddH_isLiving_1 rfl rfl ?_
  obtain ⟨h2, h⟩ := gdN h
  obtain ⟨q1, hq1, h⟩ := bindN h
  refine zz_callV0 (As := [.int v1]) C ddH_isLiving_2 wd_610 my_H_isThread mv_H_isThread ⟨_, rfl, rfl⟩ (xH_isThread hG (d - 1) (by omega) hq1) (by omega) h2 rfl rfl (Nat.le_of_ble_eq_true rfl) ?_
  refine zz_if_eq (tgt := 22) C ddH_isLiving_5 rfl (fun hc => ?_) (fun hc => ?_)
  · replace h := iteT h hc
    refine zz_loc (L1 := []) [] rfl ?_
    exact zBH_isLiving_22 hG C N hD hd E h
  · replace h := iteF h hc
    refine zz_aload_n C 0 ddH_isLiving_8 rfl rfl ?_
    obtain ⟨h3, h⟩ := gdN h
    obtain ⟨h4, h⟩ := gdN h
    refine zz_getr C ddH_isLiving_9 fl_H_33 rfl h3 (of_decide_eq_true h4) ?_
    refine zz_iload_n C 1 ddH_isLiving_12 rfl rfl ?_
    obtain ⟨h5, h⟩ := gdN h
    refine zz_iaload C ddH_isLiving_13 h5 ?_
    refine zz_iconst (v := 1) C ddH_isLiving_14 (by decide) ?_
    refine zz_icmp_ne (tgt := 22) C ddH_isLiving_15 rfl (fun hc => ?_) (fun hc => ?_)
    · replace h := iteF h hc
      refine zz_loc (L1 := []) [] rfl ?_
      exact zBH_isLiving_22 hG C N hD hd E h
    · replace h := iteT h hc
      refine zz_iconst (v := 1) C ddH_isLiving_18 (by decide) ?_
      refine zz_goto (tgt := 23) C ddH_isLiving_19 rfl ?_
      refine zz_loc (L1 := []) [] rfl ?_
      exact zBH_isLiving_23 hG C N hD hd E h
theorem ddH_pagesOf_0 : decode cH_pagesOf 0 = .ok (.iconst 0, 1) := by decide +kernel
theorem ddH_pagesOf_1 : decode cH_pagesOf 1 = .ok (.istore_n 2, 1) := by decide +kernel
theorem ddH_pagesOf_2 : decode cH_pagesOf 2 = .ok (.iconst 0, 1) := by decide +kernel
theorem ddH_pagesOf_3 : decode cH_pagesOf 3 = .ok (.istore_n 3, 1) := by decide +kernel
theorem ddH_pagesOf_4 : decode cH_pagesOf 4 = .ok (.iload_n 3, 1) := by decide +kernel
theorem ddH_pagesOf_5 : decode cH_pagesOf 5 = .ok (.aload_n 0, 1) := by decide +kernel
theorem ddH_pagesOf_6 : decode cH_pagesOf 6 = .ok (.getfield 46, 3) := by decide +kernel
theorem ddH_pagesOf_9 : decode cH_pagesOf 9 = .ok (.getfield 76, 3) := by decide +kernel
theorem ddH_pagesOf_12 : decode cH_pagesOf 12 = .ok (.iconst 1, 1) := by decide +kernel
theorem ddH_pagesOf_13 : decode cH_pagesOf 13 = .ok (.iaload, 1) := by decide +kernel
theorem ddH_pagesOf_14 : decode cH_pagesOf 14 = .ok (.if_icmp .ge 27, 3) := by decide +kernel
theorem ddH_pagesOf_17 : decode cH_pagesOf 17 = .ok (.iload_n 2, 1) := by decide +kernel
theorem ddH_pagesOf_18 : decode cH_pagesOf 18 = .ok (.aload_n 0, 1) := by decide +kernel
theorem ddH_pagesOf_19 : decode cH_pagesOf 19 = .ok (.getfield 15, 3) := by decide +kernel
theorem ddH_pagesOf_22 : decode cH_pagesOf 22 = .ok (.iload_n 3, 1) := by decide +kernel
theorem ddH_pagesOf_23 : decode cH_pagesOf 23 = .ok (.iaload, 1) := by decide +kernel
theorem ddH_pagesOf_24 : decode cH_pagesOf 24 = .ok (.iload_n 1, 1) := by decide +kernel
theorem ddH_pagesOf_25 : decode cH_pagesOf 25 = .ok (.if_icmp .ne 7, 3) := by decide +kernel
theorem ddH_pagesOf_28 : decode cH_pagesOf 28 = .ok (.iconst 1, 1) := by decide +kernel
theorem ddH_pagesOf_29 : decode cH_pagesOf 29 = .ok (.goto 4, 3) := by decide +kernel
theorem ddH_pagesOf_32 : decode cH_pagesOf 32 = .ok (.iconst 0, 1) := by decide +kernel
theorem ddH_pagesOf_33 : decode cH_pagesOf 33 = .ok (.iadd, 1) := by decide +kernel
theorem ddH_pagesOf_34 : decode cH_pagesOf 34 = .ok (.istore_n 2, 1) := by decide +kernel
theorem ddH_pagesOf_35 : decode cH_pagesOf 35 = .ok (.iinc 3 1, 3) := by decide +kernel
theorem ddH_pagesOf_38 : decode cH_pagesOf 38 = .ok (.goto (-34), 3) := by decide +kernel
theorem ddH_pagesOf_41 : decode cH_pagesOf 41 = .ok (.iload_n 2, 1) := by decide +kernel
theorem ddH_pagesOf_42 : decode cH_pagesOf 42 = .ok (.ireturn, 1) := by decide +kernel
set_option maxHeartbeats 2000000 in
theorem zBH_pagesOf_33 {G : GXM} {X : CxM} (hG : GokM G) (C : CoM G X cH_pagesOf "HomeFreed$Heap") (N : mLM X = 4) {d : Nat} (hD : dpM X = d) (hd : 0 ≤ d) {v0 : Nat} {v1 : Int32} {K : Nat → Int32 → Int32 → Int32 → Mem → Option ((Int32 × Mem))} {q : (Int32 × Mem)} (hK : ∀ (v2 : Int32) (v3 : Int32) (M : Mem), K v0 v1 v2 v3 M = some q → ZM G X 4 [(0, .ref v0), (1, .int v1), (2, .int v2), (3, .int v3)] [] M 0 0) (hr : ∀ r : Int32 × Mem, q =  r → EnM G X (some .int) (some (.int r.1)) r.2 0 0) {v3 : Int32} {w0 : Int32} {w1 : Int32} {M : Mem} (h : BH_pagesOf_33 K v0 v1 v3 w0 w1 M = some q) : ZM G X 33 [(0, .ref v0), (1, .int v1), (3, .int v3)] [.int w1, .int w0] M 0 0 := by
  unfold BH_pagesOf_33 at h
  refine zz_iadd C ddH_pagesOf_33 ?_
  refine zz_istore_n (L1 := [(2, .int (w0 + w1)), (0, .ref v0), (1, .int v1), (3, .int v3)]) C ddH_pagesOf_34 rfl N (by decide) rfl ?_
  refine zz_iinc (v := v3 + 1) (L1 := [(3, .int (v3 + 1)), (2, .int (w0 + w1)), (0, .ref v0), (1, .int v1)]) C 3 ddH_pagesOf_35 rfl rfl N (by decide) rfl ?_
  refine zz_goto (tgt := 4) C ddH_pagesOf_38 rfl ?_
  refine zz_loc (L1 := [(0, .ref v0), (1, .int v1), (2, .int (w0 + w1)), (3, .int (v3 + 1))]) [2, 3, 1, 0] rfl ?_
  exact hK _ _ _ h
set_option maxHeartbeats 2000000 in
theorem zBH_pagesOf_4 {G : GXM} {X : CxM} (hG : GokM G) (C : CoM G X cH_pagesOf "HomeFreed$Heap") (N : mLM X = 4) {d : Nat} (hD : dpM X = d) (hd : 0 ≤ d) {v0 : Nat} {v1 : Int32} {K : Nat → Int32 → Int32 → Int32 → Mem → Option ((Int32 × Mem))} {q : (Int32 × Mem)} (hK : ∀ (v2 : Int32) (v3 : Int32) (M : Mem), K v0 v1 v2 v3 M = some q → ZM G X 4 [(0, .ref v0), (1, .int v1), (2, .int v2), (3, .int v3)] [] M 0 0) (hr : ∀ r : Int32 × Mem, q =  r → EnM G X (some .int) (some (.int r.1)) r.2 0 0) {v2 : Int32} {v3 : Int32} {M : Mem} (h : BH_pagesOf_4 K v0 v1 v2 v3 M = some q) : ZM G X 4 [(0, .ref v0), (1, .int v1), (2, .int v2), (3, .int v3)] [] M 0 0 := by
  unfold BH_pagesOf_4 at h
  refine zz_iload_n C 3 ddH_pagesOf_4 rfl rfl ?_
  refine zz_aload_n C 0 ddH_pagesOf_5 rfl rfl ?_
  obtain ⟨h1, h⟩ := gdN h
  obtain ⟨h2, h⟩ := gdN h
  refine zz_getr C ddH_pagesOf_6 fl_H_46 rfl h1 (of_decide_eq_true h2) ?_
  obtain ⟨h3, h⟩ := gdN h
  obtain ⟨h4, h⟩ := gdN h
  refine zz_getr C ddH_pagesOf_9 fl_H_76 rfl h3 (of_decide_eq_true h4) ?_
  refine zz_iconst (v := 1) C ddH_pagesOf_12 (by decide) ?_
  obtain ⟨h5, h⟩ := gdN h
  refine zz_iaload C ddH_pagesOf_13 h5 ?_
  refine zz_icmp_ge (tgt := 41) C ddH_pagesOf_14 rfl (fun hc => ?_) (fun hc => ?_)
  · replace h := iteT h hc
    refine zz_iload_n C 2 ddH_pagesOf_41 rfl rfl ?_
    exact zz_iret C (hr _ (Option.some.inj h).symm) ddH_pagesOf_42
  · replace h := iteF h hc
    refine zz_iload_n C 2 ddH_pagesOf_17 rfl rfl ?_
    refine zz_aload_n C 0 ddH_pagesOf_18 rfl rfl ?_
    obtain ⟨h6, h⟩ := gdN h
    refine zz_getr C ddH_pagesOf_19 fl_H_15 rfl h1 (of_decide_eq_true h6) ?_
    refine zz_iload_n C 3 ddH_pagesOf_22 rfl rfl ?_
    obtain ⟨h7, h⟩ := gdN h
    refine zz_iaload C ddH_pagesOf_23 h7 ?_
    refine zz_iload_n C 1 ddH_pagesOf_24 rfl rfl ?_
    refine zz_icmp_ne (tgt := 32) C ddH_pagesOf_25 rfl (fun hc => ?_) (fun hc => ?_)
    · replace h := iteF h hc
      refine zz_iconst (v := 0) C ddH_pagesOf_32 (by decide) ?_
      refine zz_loc (L1 := [(0, .ref v0), (1, .int v1), (3, .int v3)]) [0, 1, 3] rfl ?_
      exact zBH_pagesOf_33 hG C N hD hd hK hr h
    · replace h := iteT h hc
      refine zz_iconst (v := 1) C ddH_pagesOf_28 (by decide) ?_
      refine zz_goto (tgt := 33) C ddH_pagesOf_29 rfl ?_
      refine zz_loc (L1 := [(0, .ref v0), (1, .int v1), (3, .int v3)]) [0, 1, 3] rfl ?_
      exact zBH_pagesOf_33 hG C N hD hd hK hr h
set_option maxHeartbeats 2000000 in
theorem zLH_pagesOf_4 {G : GXM} {X : CxM} (hG : GokM G) (C : CoM G X cH_pagesOf "HomeFreed$Heap") (N : mLM X = 4) {d : Nat} (hD : dpM X = d) (hd : 0 ≤ d) {v0 : Nat} {v1 : Int32} {q : (Int32 × Mem)} : ∀ (f : Nat) (v2 : Int32) (v3 : Int32) (M : Mem), LH_pagesOf_4 f v0 v1 v2 v3 M = some q → (hr : ∀ r : Int32 × Mem, q =  r → EnM G X (some .int) (some (.int r.1)) r.2 0 0) → ZM G X 4 [(0, .ref v0), (1, .int v1), (2, .int v2), (3, .int v3)] [] M 0 0 := by
  intro f
  induction f with
  | zero => intro v2 v3 M h; cases h
  | succ f ih =>
    intro v2 v3 M h hr
    exact zBH_pagesOf_4 hG C N hD hd (K := LH_pagesOf_4 f) (q := q) (fun v2 v3 M h => ih v2 v3 M h hr) hr h
set_option maxHeartbeats 2000000 in
theorem xH_pagesOf {G : GXM} {l : Launch} (hG : GokM G) (d : Nat) (hd : 0 ≤ d) {v0 : Nat} {v1 : Int32} {M : Mem} {q : Int32 × Mem} (h : fH_pagesOf v0 v1 M = some q) : ExM G l d 0 0 yH_pagesOf cH_pagesOf 4 (some .int) [.ref v0, .int v1] M (some (.int q.1)) q.2 := by
  refine ex_of hG (by decide +kernel) (Nat.le_of_ble_eq_true rfl) ?_
  intro X hl C E N hD hn
  show ZM G X 0 [(0, .ref v0), (1, .int v1)] [] M 0 0
  unfold fH_pagesOf at h
  refine zz_iconst (v := 0) C ddH_pagesOf_0 (by decide) ?_
  refine zz_istore_n (L1 := [(2, .int 0), (0, .ref v0), (1, .int v1)]) C ddH_pagesOf_1 rfl N (by decide) rfl ?_
  refine zz_iconst (v := 0) C ddH_pagesOf_2 (by decide) ?_
  refine zz_istore_n (L1 := [(3, .int 0), (2, .int 0), (0, .ref v0), (1, .int v1)]) C ddH_pagesOf_3 rfl N (by decide) rfl ?_
  refine zz_loc (L1 := [(0, .ref v0), (1, .int v1), (2, .int 0), (3, .int 0)]) [2, 3, 1, 0] rfl ?_
  obtain ⟨q1, hq1, h⟩ := bindN h
  refine zLH_pagesOf_4 hG C N hD hd 1000000 _ _ _ hq1 ?_
  · intro r2 eq1; subst eq1
    obtain rfl := Option.some.inj h
    exact E
theorem ddH_outboxOf_0 : decode cH_outboxOf 0 = .ok (.bipush 48, 2) := by decide +kernel
theorem ddH_outboxOf_2 : decode cH_outboxOf 2 = .ok (.iload_n 1, 1) := by decide +kernel
theorem ddH_outboxOf_3 : decode cH_outboxOf 3 = .ok (.bipush 16, 2) := by decide +kernel
theorem ddH_outboxOf_5 : decode cH_outboxOf 5 = .ok (.imul, 1) := by decide +kernel
theorem ddH_outboxOf_6 : decode cH_outboxOf 6 = .ok (.iadd, 1) := by decide +kernel
theorem ddH_outboxOf_7 : decode cH_outboxOf 7 = .ok (.iload_n 2, 1) := by decide +kernel
theorem ddH_outboxOf_8 : decode cH_outboxOf 8 = .ok (.iadd, 1) := by decide +kernel
theorem ddH_outboxOf_9 : decode cH_outboxOf 9 = .ok (.ireturn, 1) := by decide +kernel
set_option maxHeartbeats 2000000 in
theorem xH_outboxOf {G : GXM} {l : Launch} (hG : GokM G) (d : Nat) (hd : 0 ≤ d) {v0 : Nat} {v1 : Int32} {v2 : Int32} {M : Mem} {q : Int32 × Mem} (h : fH_outboxOf v0 v1 v2 M = some q) : ExM G l d 0 0 yH_outboxOf cH_outboxOf 3 (some .int) [.ref v0, .int v1, .int v2] M (some (.int q.1)) q.2 := by
  refine ex_of hG (by decide +kernel) (Nat.le_of_ble_eq_true rfl) ?_
  intro X hl C E N hD hn
  show ZM G X 0 [(0, .ref v0), (1, .int v1), (2, .int v2)] [] M 0 0
  unfold fH_outboxOf at h
  refine zz_bipush (v := 48) C ddH_outboxOf_0 (by decide) ?_
  refine zz_iload_n C 1 ddH_outboxOf_2 rfl rfl ?_
  refine zz_bipush (v := 16) C ddH_outboxOf_3 (by decide) ?_
  refine zz_imul C ddH_outboxOf_5 ?_
  refine zz_iadd C ddH_outboxOf_6 ?_
  refine zz_iload_n C 2 ddH_outboxOf_7 rfl rfl ?_
  refine zz_iadd C ddH_outboxOf_8 ?_
  obtain rfl := Option.some.inj h
  exact zz_iret C E ddH_outboxOf_9
theorem ddH_outOf_0 : decode cH_outOf 0 = .ok (.iconst 0, 1) := by decide +kernel
theorem ddH_outOf_1 : decode cH_outOf 1 = .ok (.istore_n 2, 1) := by decide +kernel
theorem ddH_outOf_2 : decode cH_outOf 2 = .ok (.iconst 0, 1) := by decide +kernel
theorem ddH_outOf_3 : decode cH_outOf 3 = .ok (.istore_n 3, 1) := by decide +kernel
theorem ddH_outOf_4 : decode cH_outOf 4 = .ok (.iload_n 3, 1) := by decide +kernel
theorem ddH_outOf_5 : decode cH_outOf 5 = .ok (.aload_n 0, 1) := by decide +kernel
theorem ddH_outOf_6 : decode cH_outOf 6 = .ok (.getfield 46, 3) := by decide +kernel
theorem ddH_outOf_9 : decode cH_outOf 9 = .ok (.getfield 76, 3) := by decide +kernel
theorem ddH_outOf_12 : decode cH_outOf 12 = .ok (.iconst 1, 1) := by decide +kernel
theorem ddH_outOf_13 : decode cH_outOf 13 = .ok (.iaload, 1) := by decide +kernel
theorem ddH_outOf_14 : decode cH_outOf 14 = .ok (.if_icmp .ge 26, 3) := by decide +kernel
theorem ddH_outOf_17 : decode cH_outOf 17 = .ok (.iload_n 2, 1) := by decide +kernel
theorem ddH_outOf_18 : decode cH_outOf 18 = .ok (.aload_n 0, 1) := by decide +kernel
theorem ddH_outOf_19 : decode cH_outOf 19 = .ok (.getfield 30, 3) := by decide +kernel
theorem ddH_outOf_22 : decode cH_outOf 22 = .ok (.getfield 95, 3) := by decide +kernel
theorem ddH_outOf_25 : decode cH_outOf 25 = .ok (.aload_n 0, 1) := by decide +kernel
theorem ddH_outOf_26 : decode cH_outOf 26 = .ok (.iload_n 1, 1) := by decide +kernel
theorem ddH_outOf_27 : decode cH_outOf 27 = .ok (.iload_n 3, 1) := by decide +kernel
theorem ddH_outOf_28 : decode cH_outOf 28 = .ok (.invokevirtual 98, 3) := by decide +kernel
theorem ddH_outOf_31 : decode cH_outOf 31 = .ok (.iaload, 1) := by decide +kernel
theorem ddH_outOf_32 : decode cH_outOf 32 = .ok (.iadd, 1) := by decide +kernel
theorem ddH_outOf_33 : decode cH_outOf 33 = .ok (.istore_n 2, 1) := by decide +kernel
theorem ddH_outOf_34 : decode cH_outOf 34 = .ok (.iinc 3 1, 3) := by decide +kernel
theorem ddH_outOf_37 : decode cH_outOf 37 = .ok (.goto (-33), 3) := by decide +kernel
theorem ddH_outOf_40 : decode cH_outOf 40 = .ok (.iload_n 2, 1) := by decide +kernel
theorem ddH_outOf_41 : decode cH_outOf 41 = .ok (.ireturn, 1) := by decide +kernel
set_option maxHeartbeats 2000000 in
theorem zBH_outOf_4 {G : GXM} {X : CxM} (hG : GokM G) (C : CoM G X cH_outOf "HomeFreed$Heap") (N : mLM X = 4) {d : Nat} (hD : dpM X = d) (hd : 1 ≤ d) {v0 : Nat} {v1 : Int32} {K : Nat → Int32 → Int32 → Int32 → Mem → Option ((Int32 × Mem))} {q : (Int32 × Mem)} (hK : ∀ (v2 : Int32) (v3 : Int32) (M : Mem), K v0 v1 v2 v3 M = some q → ZM G X 4 [(0, .ref v0), (1, .int v1), (2, .int v2), (3, .int v3)] [] M 0 0) (hr : ∀ r : Int32 × Mem, q =  r → EnM G X (some .int) (some (.int r.1)) r.2 0 0) {v2 : Int32} {v3 : Int32} {M : Mem} (h : BH_outOf_4 K v0 v1 v2 v3 M = some q) : ZM G X 4 [(0, .ref v0), (1, .int v1), (2, .int v2), (3, .int v3)] [] M 0 0 := by
  unfold BH_outOf_4 at h
  refine zz_iload_n C 3 ddH_outOf_4 rfl rfl ?_
  refine zz_aload_n C 0 ddH_outOf_5 rfl rfl ?_
  obtain ⟨h1, h⟩ := gdN h
  obtain ⟨h2, h⟩ := gdN h
  refine zz_getr C ddH_outOf_6 fl_H_46 rfl h1 (of_decide_eq_true h2) ?_
  obtain ⟨h3, h⟩ := gdN h
  obtain ⟨h4, h⟩ := gdN h
  refine zz_getr C ddH_outOf_9 fl_H_76 rfl h3 (of_decide_eq_true h4) ?_
  refine zz_iconst (v := 1) C ddH_outOf_12 (by decide) ?_
  obtain ⟨h5, h⟩ := gdN h
  refine zz_iaload C ddH_outOf_13 h5 ?_
  refine zz_icmp_ge (tgt := 40) C ddH_outOf_14 rfl (fun hc => ?_) (fun hc => ?_)
  · replace h := iteT h hc
    refine zz_iload_n C 2 ddH_outOf_40 rfl rfl ?_
    exact zz_iret C (hr _ (Option.some.inj h).symm) ddH_outOf_41
  · replace h := iteF h hc
    refine zz_iload_n C 2 ddH_outOf_17 rfl rfl ?_
    refine zz_aload_n C 0 ddH_outOf_18 rfl rfl ?_
    obtain ⟨h6, h⟩ := gdN h
    refine zz_getr C ddH_outOf_19 fl_H_30 rfl h1 (of_decide_eq_true h6) ?_
    obtain ⟨h7, h⟩ := gdN h
    obtain ⟨h8, h⟩ := gdN h
    refine zz_getr C ddH_outOf_22 fl_H_95 rfl h7 (of_decide_eq_true h8) ?_
    refine zz_aload_n C 0 ddH_outOf_25 rfl rfl ?_
    refine zz_iload_n C 1 ddH_outOf_26 rfl rfl ?_
    refine zz_iload_n C 3 ddH_outOf_27 rfl rfl ?_
    obtain ⟨q9, hq9, h⟩ := bindN h
    refine zz_callV0 (As := [.int v1, .int v3]) C ddH_outOf_28 wd_619 my_H_outboxOf mv_H_outboxOf ⟨_, rfl, rfl⟩ (xH_outboxOf hG (d - 1) (by omega) hq9) (by omega) h1 rfl rfl (Nat.le_of_ble_eq_true rfl) ?_
    obtain ⟨h10, h⟩ := gdN h
    refine zz_iaload C ddH_outOf_31 h10 ?_
    refine zz_iadd C ddH_outOf_32 ?_
    refine zz_istore_n (L1 := [(2, .int (v2 + (giM q9.2 (grM M (grM M v0 5) 1) (Int32.toNatClampNeg q9.1)))), (0, .ref v0), (1, .int v1), (3, .int v3)]) C ddH_outOf_33 rfl N (by decide) rfl ?_
    refine zz_iinc (v := v3 + 1) (L1 := [(3, .int (v3 + 1)), (2, .int (v2 + (giM q9.2 (grM M (grM M v0 5) 1) (Int32.toNatClampNeg q9.1)))), (0, .ref v0), (1, .int v1)]) C 3 ddH_outOf_34 rfl rfl N (by decide) rfl ?_
    refine zz_goto (tgt := 4) C ddH_outOf_37 rfl ?_
    refine zz_loc (L1 := [(0, .ref v0), (1, .int v1), (2, .int (v2 + (giM q9.2 (grM M (grM M v0 5) 1) (Int32.toNatClampNeg q9.1)))), (3, .int (v3 + 1))]) [2, 3, 1, 0] rfl ?_
    exact hK _ _ _ h
set_option maxHeartbeats 2000000 in
theorem zLH_outOf_4 {G : GXM} {X : CxM} (hG : GokM G) (C : CoM G X cH_outOf "HomeFreed$Heap") (N : mLM X = 4) {d : Nat} (hD : dpM X = d) (hd : 1 ≤ d) {v0 : Nat} {v1 : Int32} {q : (Int32 × Mem)} : ∀ (f : Nat) (v2 : Int32) (v3 : Int32) (M : Mem), LH_outOf_4 f v0 v1 v2 v3 M = some q → (hr : ∀ r : Int32 × Mem, q =  r → EnM G X (some .int) (some (.int r.1)) r.2 0 0) → ZM G X 4 [(0, .ref v0), (1, .int v1), (2, .int v2), (3, .int v3)] [] M 0 0 := by
  intro f
  induction f with
  | zero => intro v2 v3 M h; cases h
  | succ f ih =>
    intro v2 v3 M h hr
    exact zBH_outOf_4 hG C N hD hd (K := LH_outOf_4 f) (q := q) (fun v2 v3 M h => ih v2 v3 M h hr) hr h
set_option maxHeartbeats 2000000 in
theorem xH_outOf {G : GXM} {l : Launch} (hG : GokM G) (d : Nat) (hd : 1 ≤ d) {v0 : Nat} {v1 : Int32} {M : Mem} {q : Int32 × Mem} (h : fH_outOf v0 v1 M = some q) : ExM G l d 0 0 yH_outOf cH_outOf 4 (some .int) [.ref v0, .int v1] M (some (.int q.1)) q.2 := by
  refine ex_of hG (by decide +kernel) (Nat.le_of_ble_eq_true rfl) ?_
  intro X hl C E N hD hn
  show ZM G X 0 [(0, .ref v0), (1, .int v1)] [] M 0 0
  unfold fH_outOf at h
  refine zz_iconst (v := 0) C ddH_outOf_0 (by decide) ?_
  refine zz_istore_n (L1 := [(2, .int 0), (0, .ref v0), (1, .int v1)]) C ddH_outOf_1 rfl N (by decide) rfl ?_
  refine zz_iconst (v := 0) C ddH_outOf_2 (by decide) ?_
  refine zz_istore_n (L1 := [(3, .int 0), (2, .int 0), (0, .ref v0), (1, .int v1)]) C ddH_outOf_3 rfl N (by decide) rfl ?_
  refine zz_loc (L1 := [(0, .ref v0), (1, .int v1), (2, .int 0), (3, .int 0)]) [2, 3, 1, 0] rfl ?_
  obtain ⟨q1, hq1, h⟩ := bindN h
  refine zLH_outOf_4 hG C N hD hd 1000000 _ _ _ hq1 ?_
  · intro r2 eq1; subst eq1
    obtain rfl := Option.some.inj h
    exact E
theorem ddA_thread_0 : decode cA_thread 0 = .ok (.aload_n 0, 1) := by decide +kernel
theorem ddA_thread_1 : decode cA_thread 1 = .ok (.getfield 55, 3) := by decide +kernel
theorem ddA_thread_4 : decode cA_thread 4 = .ok (.iload_n 1, 1) := by decide +kernel
theorem ddA_thread_5 : decode cA_thread 5 = .ok (.invokevirtual 187, 3) := by decide +kernel
theorem ddA_thread_8 : decode cA_thread 8 = .ok (.ifCond .ne 5, 3) := by decide +kernel
theorem ddA_thread_11 : decode cA_thread 11 = .ok (.iconst (-1), 1) := by decide +kernel
theorem ddA_thread_12 : decode cA_thread 12 = .ok (.ireturn, 1) := by decide +kernel
theorem ddA_thread_13 : decode cA_thread 13 = .ok (.iload_n 2, 1) := by decide +kernel
theorem ddA_thread_14 : decode cA_thread 14 = .ok (.tableswitch 75 0 3 #[30, 47, 56, 66], 30) := by decide +kernel
theorem ddA_thread_44 : decode cA_thread 44 = .ok (.aload_n 0, 1) := by decide +kernel
theorem ddA_thread_45 : decode cA_thread 45 = .ok (.getfield 55, 3) := by decide +kernel
theorem ddA_thread_48 : decode cA_thread 48 = .ok (.iload_n 1, 1) := by decide +kernel
theorem ddA_thread_49 : decode cA_thread 49 = .ok (.invokevirtual 190, 3) := by decide +kernel
theorem ddA_thread_52 : decode cA_thread 52 = .ok (.ifCond .eq 7, 3) := by decide +kernel
theorem ddA_thread_55 : decode cA_thread 55 = .ok (.iconst 1, 1) := by decide +kernel
theorem ddA_thread_56 : decode cA_thread 56 = .ok (.goto 4, 3) := by decide +kernel
theorem ddA_thread_59 : decode cA_thread 59 = .ok (.iconst 0, 1) := by decide +kernel
theorem ddA_thread_60 : decode cA_thread 60 = .ok (.ireturn, 1) := by decide +kernel
theorem ddA_thread_61 : decode cA_thread 61 = .ok (.aload_n 0, 1) := by decide +kernel
theorem ddA_thread_62 : decode cA_thread 62 = .ok (.getfield 55, 3) := by decide +kernel
theorem ddA_thread_65 : decode cA_thread 65 = .ok (.iload_n 1, 1) := by decide +kernel
theorem ddA_thread_66 : decode cA_thread 66 = .ok (.invokevirtual 193, 3) := by decide +kernel
theorem ddA_thread_69 : decode cA_thread 69 = .ok (.ireturn, 1) := by decide +kernel
theorem ddA_thread_70 : decode cA_thread 70 = .ok (.aload_n 0, 1) := by decide +kernel
theorem ddA_thread_71 : decode cA_thread 71 = .ok (.getfield 55, 3) := by decide +kernel
theorem ddA_thread_74 : decode cA_thread 74 = .ok (.getfield 196, 3) := by decide +kernel
theorem ddA_thread_77 : decode cA_thread 77 = .ok (.iload_n 1, 1) := by decide +kernel
theorem ddA_thread_78 : decode cA_thread 78 = .ok (.iaload, 1) := by decide +kernel
theorem ddA_thread_79 : decode cA_thread 79 = .ok (.ireturn, 1) := by decide +kernel
theorem ddA_thread_80 : decode cA_thread 80 = .ok (.aload_n 0, 1) := by decide +kernel
theorem ddA_thread_81 : decode cA_thread 81 = .ok (.getfield 55, 3) := by decide +kernel
theorem ddA_thread_84 : decode cA_thread 84 = .ok (.iload_n 1, 1) := by decide +kernel
theorem ddA_thread_85 : decode cA_thread 85 = .ok (.invokevirtual 199, 3) := by decide +kernel
theorem ddA_thread_88 : decode cA_thread 88 = .ok (.ireturn, 1) := by decide +kernel
theorem ddA_thread_89 : decode cA_thread 89 = .ok (.iconst (-1), 1) := by decide +kernel
theorem ddA_thread_90 : decode cA_thread 90 = .ok (.ireturn, 1) := by decide +kernel
set_option maxHeartbeats 2000000 in
theorem zBA_thread_60 {G : GXM} {X : CxM} (hG : GokM G) (C : CoM G X cA_thread "HomeFreed") (N : mLM X = 3) {d : Nat} (hD : dpM X = d) (hd : 2 ≤ d)  {q : Int32 × Mem} (E : EnM G X (some .int) (some (.int q.1)) q.2 0 0) {w0 : Int32} {M : Mem} (h : BA_thread_60 w0 M = some q) : ZM G X 60 [] [.int w0] M 0 0 := by
  unfold BA_thread_60 at h
  obtain rfl := Option.some.inj h
  exact zz_iret C E ddA_thread_60
set_option maxHeartbeats 2000000 in
theorem xA_thread {G : GXM} {l : Launch} (hG : GokM G) (d : Nat) (hd : 2 ≤ d) {v0 : Nat} {v1 : Int32} {v2 : Int32} {M : Mem} {q : Int32 × Mem} (h : fA_thread v0 v1 v2 M = some q) : ExM G l d 0 0 yA_thread cA_thread 3 (some .int) [.ref v0, .int v1, .int v2] M (some (.int q.1)) q.2 := by
  refine ex_of hG (by decide +kernel) (Nat.le_of_ble_eq_true rfl) ?_
  intro X hl C E N hD hn
  show ZM G X 0 [(0, .ref v0), (1, .int v1), (2, .int v2)] [] M 0 0
  unfold fA_thread at h
  refine zz_aload_n C 0 ddA_thread_0 rfl rfl ?_
  obtain ⟨h1, h⟩ := gdN h
  obtain ⟨h2, h⟩ := gdN h
  refine zz_getr C ddA_thread_1 fl_A_55 rfl h1 (of_decide_eq_true h2) ?_
  refine zz_iload_n C 1 ddA_thread_4 rfl rfl ?_
  obtain ⟨h4, h⟩ := gdN h
  obtain ⟨q3, hq3, h⟩ := bindN h
  refine zz_callV0 (As := [.int v1]) C ddA_thread_5 wd_602 my_H_isThread mv_H_isThread ⟨_, rfl, rfl⟩ (xH_isThread hG (d - 1) (by omega) hq3) (by omega) h4 rfl rfl (Nat.le_of_ble_eq_true rfl) ?_
  refine zz_if_ne (tgt := 13) C ddA_thread_8 rfl (fun hc => ?_) (fun hc => ?_)
  · replace h := iteF h hc
    refine zz_iload_n C 2 ddA_thread_13 rfl rfl ?_
    by_cases hs14_0 : v2 = 0
    · replace h := iteT h hs14_0
      rw [hs14_0]
      refine zz_tableIn (tgt := 44) C ddA_thread_14 (by decide) (by decide) rfl rfl ?_
      refine zz_aload_n C 0 ddA_thread_44 rfl rfl ?_
      obtain ⟨h5, h⟩ := gdN h
      obtain ⟨h6, h⟩ := gdN h
      refine zz_getr C ddA_thread_45 fl_A_55 rfl h5 (of_decide_eq_true h6) ?_
      refine zz_iload_n C 1 ddA_thread_48 rfl rfl ?_
      obtain ⟨h8, h⟩ := gdN h
      obtain ⟨q7, hq7, h⟩ := bindN h
      refine zz_callV0 (As := [.int v1]) C ddA_thread_49 wd_606 my_H_isLiving mv_H_isLiving ⟨_, rfl, rfl⟩ (xH_isLiving hG (d - 1) (by omega) hq7) (by omega) h8 rfl rfl (Nat.le_of_ble_eq_true rfl) ?_
      refine zz_if_eq (tgt := 59) C ddA_thread_52 rfl (fun hc => ?_) (fun hc => ?_)
      · replace h := iteT h hc
        refine zz_iconst (v := 0) C ddA_thread_59 (by decide) ?_
        refine zz_loc (L1 := []) [] rfl ?_
        exact zBA_thread_60 hG C N hD hd E h
      · replace h := iteF h hc
        refine zz_iconst (v := 1) C ddA_thread_55 (by decide) ?_
        refine zz_goto (tgt := 60) C ddA_thread_56 rfl ?_
        refine zz_loc (L1 := []) [] rfl ?_
        exact zBA_thread_60 hG C N hD hd E h
    replace h := iteF h hs14_0
    by_cases hs14_1 : v2 = 1
    · replace h := iteT h hs14_1
      rw [hs14_1]
      refine zz_tableIn (tgt := 61) C ddA_thread_14 (by decide) (by decide) rfl rfl ?_
      refine zz_aload_n C 0 ddA_thread_61 rfl rfl ?_
      obtain ⟨h9, h⟩ := gdN h
      obtain ⟨h10, h⟩ := gdN h
      refine zz_getr C ddA_thread_62 fl_A_55 rfl h9 (of_decide_eq_true h10) ?_
      refine zz_iload_n C 1 ddA_thread_65 rfl rfl ?_
      obtain ⟨h12, h⟩ := gdN h
      obtain ⟨q11, hq11, h⟩ := bindN h
      refine zz_callV0 (As := [.int v1]) C ddA_thread_66 wd_611 my_H_pagesOf mv_H_pagesOf ⟨_, rfl, rfl⟩ (xH_pagesOf hG (d - 1) (by omega) hq11) (by omega) h12 rfl rfl (Nat.le_of_ble_eq_true rfl) ?_
      obtain rfl := Option.some.inj h
      exact zz_iret C E ddA_thread_69
    replace h := iteF h hs14_1
    by_cases hs14_2 : v2 = 2
    · replace h := iteT h hs14_2
      rw [hs14_2]
      refine zz_tableIn (tgt := 70) C ddA_thread_14 (by decide) (by decide) rfl rfl ?_
      refine zz_aload_n C 0 ddA_thread_70 rfl rfl ?_
      obtain ⟨h13, h⟩ := gdN h
      obtain ⟨h14, h⟩ := gdN h
      refine zz_getr C ddA_thread_71 fl_A_55 rfl h13 (of_decide_eq_true h14) ?_
      obtain ⟨h15, h⟩ := gdN h
      obtain ⟨h16, h⟩ := gdN h
      refine zz_getr C ddA_thread_74 fl_A_196 rfl h15 (of_decide_eq_true h16) ?_
      refine zz_iload_n C 1 ddA_thread_77 rfl rfl ?_
      obtain ⟨h17, h⟩ := gdN h
      refine zz_iaload C ddA_thread_78 h17 ?_
      obtain rfl := Option.some.inj h
      exact zz_iret C E ddA_thread_79
    replace h := iteF h hs14_2
    by_cases hs14_3 : v2 = 3
    · replace h := iteT h hs14_3
      rw [hs14_3]
      refine zz_tableIn (tgt := 80) C ddA_thread_14 (by decide) (by decide) rfl rfl ?_
      refine zz_aload_n C 0 ddA_thread_80 rfl rfl ?_
      obtain ⟨h18, h⟩ := gdN h
      obtain ⟨h19, h⟩ := gdN h
      refine zz_getr C ddA_thread_81 fl_A_55 rfl h18 (of_decide_eq_true h19) ?_
      refine zz_iload_n C 1 ddA_thread_84 rfl rfl ?_
      obtain ⟨h21, h⟩ := gdN h
      obtain ⟨q20, hq20, h⟩ := bindN h
      refine zz_callV0 (As := [.int v1]) C ddA_thread_85 wd_615 my_H_outOf mv_H_outOf ⟨_, rfl, rfl⟩ (xH_outOf hG (d - 1) (by omega) hq20) (by omega) h21 rfl rfl (Nat.le_of_ble_eq_true rfl) ?_
      obtain rfl := Option.some.inj h
      exact zz_iret C E ddA_thread_88
    replace h := iteF h hs14_3
    have ths14_0 := lv_neT (a := 0) hs14_0 (by decide)
    have ths14_1 := lv_neT (a := 1) hs14_1 (by decide)
    have ths14_2 := lv_neT (a := 2) hs14_2 (by decide)
    have ths14_3 := lv_neT (a := 3) hs14_3 (by decide)
    refine zz_tableOut (tgt := 89) C ddA_thread_14 (by omega) rfl ?_
    refine zz_iconst (v := (-1)) C ddA_thread_89 (by decide) ?_
    obtain rfl := Option.some.inj h
    exact zz_iret C E ddA_thread_90
  · replace h := iteT h hc
    refine zz_iconst (v := (-1)) C ddA_thread_11 (by decide) ?_
    obtain rfl := Option.some.inj h
    exact zz_iret C E ddA_thread_12
theorem ddH_queueOf_0 : decode cH_queueOf 0 = .ok (.iload_n 1, 1) := by decide +kernel
theorem ddH_queueOf_1 : decode cH_queueOf 1 = .ok (.bipush 6, 2) := by decide +kernel
theorem ddH_queueOf_3 : decode cH_queueOf 3 = .ok (.imul, 1) := by decide +kernel
theorem ddH_queueOf_4 : decode cH_queueOf 4 = .ok (.iload_n 2, 1) := by decide +kernel
theorem ddH_queueOf_5 : decode cH_queueOf 5 = .ok (.iadd, 1) := by decide +kernel
theorem ddH_queueOf_6 : decode cH_queueOf 6 = .ok (.ireturn, 1) := by decide +kernel
set_option maxHeartbeats 2000000 in
theorem xH_queueOf {G : GXM} {l : Launch} (hG : GokM G) (d : Nat) (hd : 0 ≤ d) {v0 : Nat} {v1 : Int32} {v2 : Int32} {M : Mem} {q : Int32 × Mem} (h : fH_queueOf v0 v1 v2 M = some q) : ExM G l d 0 0 yH_queueOf cH_queueOf 3 (some .int) [.ref v0, .int v1, .int v2] M (some (.int q.1)) q.2 := by
  refine ex_of hG (by decide +kernel) (Nat.le_of_ble_eq_true rfl) ?_
  intro X hl C E N hD hn
  show ZM G X 0 [(0, .ref v0), (1, .int v1), (2, .int v2)] [] M 0 0
  unfold fH_queueOf at h
  refine zz_iload_n C 1 ddH_queueOf_0 rfl rfl ?_
  refine zz_bipush (v := 6) C ddH_queueOf_1 (by decide) ?_
  refine zz_imul C ddH_queueOf_3 ?_
  refine zz_iload_n C 2 ddH_queueOf_4 rfl rfl ?_
  refine zz_iadd C ddH_queueOf_5 ?_
  obtain rfl := Option.some.inj h
  exact zz_iret C E ddH_queueOf_6
theorem ddA_queue_0 : decode cA_queue 0 = .ok (.aload_n 0, 1) := by decide +kernel
theorem ddA_queue_1 : decode cA_queue 1 = .ok (.getfield 55, 3) := by decide +kernel
theorem ddA_queue_4 : decode cA_queue 4 = .ok (.iload_n 1, 1) := by decide +kernel
theorem ddA_queue_5 : decode cA_queue 5 = .ok (.invokevirtual 187, 3) := by decide +kernel
theorem ddA_queue_8 : decode cA_queue 8 = .ok (.ifCond .eq 14, 3) := by decide +kernel
theorem ddA_queue_11 : decode cA_queue 11 = .ok (.aload_n 0, 1) := by decide +kernel
theorem ddA_queue_12 : decode cA_queue 12 = .ok (.getfield 28, 3) := by decide +kernel
theorem ddA_queue_15 : decode cA_queue 15 = .ok (.iload_n 2, 1) := by decide +kernel
theorem ddA_queue_16 : decode cA_queue 16 = .ok (.invokevirtual 139, 3) := by decide +kernel
theorem ddA_queue_19 : decode cA_queue 19 = .ok (.ifCond .ne 5, 3) := by decide +kernel
theorem ddA_queue_22 : decode cA_queue 22 = .ok (.iconst (-1), 1) := by decide +kernel
theorem ddA_queue_23 : decode cA_queue 23 = .ok (.ireturn, 1) := by decide +kernel
theorem ddA_queue_24 : decode cA_queue 24 = .ok (.aload_n 0, 1) := by decide +kernel
theorem ddA_queue_25 : decode cA_queue 25 = .ok (.getfield 55, 3) := by decide +kernel
theorem ddA_queue_28 : decode cA_queue 28 = .ok (.getfield 202, 3) := by decide +kernel
theorem ddA_queue_31 : decode cA_queue 31 = .ok (.aload_n 0, 1) := by decide +kernel
theorem ddA_queue_32 : decode cA_queue 32 = .ok (.getfield 55, 3) := by decide +kernel
theorem ddA_queue_35 : decode cA_queue 35 = .ok (.iload_n 1, 1) := by decide +kernel
theorem ddA_queue_36 : decode cA_queue 36 = .ok (.iload_n 2, 1) := by decide +kernel
theorem ddA_queue_37 : decode cA_queue 37 = .ok (.invokevirtual 205, 3) := by decide +kernel
theorem ddA_queue_40 : decode cA_queue 40 = .ok (.iload_n 3, 1) := by decide +kernel
theorem ddA_queue_41 : decode cA_queue 41 = .ok (.invokevirtual 179, 3) := by decide +kernel
theorem ddA_queue_44 : decode cA_queue 44 = .ok (.ireturn, 1) := by decide +kernel
set_option maxHeartbeats 2000000 in
theorem zBA_queue_22 {G : GXM} {X : CxM} (hG : GokM G) (C : CoM G X cA_queue "HomeFreed") (N : mLM X = 4) {d : Nat} (hD : dpM X = d) (hd : 1 ≤ d)  {q : Int32 × Mem} (E : EnM G X (some .int) (some (.int q.1)) q.2 0 0) {M : Mem} (h : BA_queue_22 M = some q) : ZM G X 22 [] [] M 0 0 := by
  unfold BA_queue_22 at h
  refine zz_iconst (v := (-1)) C ddA_queue_22 (by decide) ?_
  obtain rfl := Option.some.inj h
  exact zz_iret C E ddA_queue_23
set_option maxHeartbeats 2000000 in
theorem xA_queue {G : GXM} {l : Launch} (hG : GokM G) (d : Nat) (hd : 1 ≤ d) {v0 : Nat} {v1 : Int32} {v2 : Int32} {v3 : Int32} {M : Mem} {q : Int32 × Mem} (h : fA_queue v0 v1 v2 v3 M = some q) : ExM G l d 0 0 yA_queue cA_queue 4 (some .int) [.ref v0, .int v1, .int v2, .int v3] M (some (.int q.1)) q.2 := by
  refine ex_of hG (by decide +kernel) (Nat.le_of_ble_eq_true rfl) ?_
  intro X hl C E N hD hn
  show ZM G X 0 [(0, .ref v0), (1, .int v1), (2, .int v2), (3, .int v3)] [] M 0 0
  unfold fA_queue at h
  refine zz_aload_n C 0 ddA_queue_0 rfl rfl ?_
  obtain ⟨h1, h⟩ := gdN h
  obtain ⟨h2, h⟩ := gdN h
  refine zz_getr C ddA_queue_1 fl_A_55 rfl h1 (of_decide_eq_true h2) ?_
  refine zz_iload_n C 1 ddA_queue_4 rfl rfl ?_
  obtain ⟨h4, h⟩ := gdN h
  obtain ⟨q3, hq3, h⟩ := bindN h
  refine zz_callV0 (As := [.int v1]) C ddA_queue_5 wd_602 my_H_isThread mv_H_isThread ⟨_, rfl, rfl⟩ (xH_isThread hG (d - 1) (by omega) hq3) (by omega) h4 rfl rfl (Nat.le_of_ble_eq_true rfl) ?_
  refine zz_if_eq (tgt := 22) C ddA_queue_8 rfl (fun hc => ?_) (fun hc => ?_)
  · replace h := iteT h hc
    refine zz_loc (L1 := []) [] rfl ?_
    exact zBA_queue_22 hG C N hD hd E h
  · replace h := iteF h hc
    refine zz_aload_n C 0 ddA_queue_11 rfl rfl ?_
    obtain ⟨h5, h⟩ := gdN h
    obtain ⟨h6, h⟩ := gdN h
    refine zz_getr C ddA_queue_12 fl_A_28 rfl h5 (of_decide_eq_true h6) ?_
    refine zz_iload_n C 2 ddA_queue_15 rfl rfl ?_
    obtain ⟨h8, h⟩ := gdN h
    obtain ⟨q7, hq7, h⟩ := bindN h
    refine zz_callV0 (As := [.int v2]) C ddA_queue_16 wd_574 my_U_isKind mv_U_isKind ⟨_, rfl, rfl⟩ (xU_isKind hG (d - 1) (by omega) hq7) (by omega) h8 rfl rfl (Nat.le_of_ble_eq_true rfl) ?_
    refine zz_if_ne (tgt := 24) C ddA_queue_19 rfl (fun hc => ?_) (fun hc => ?_)
    · replace h := iteF h hc
      refine zz_aload_n C 0 ddA_queue_24 rfl rfl ?_
      obtain ⟨h9, h⟩ := gdN h
      obtain ⟨h10, h⟩ := gdN h
      refine zz_getr C ddA_queue_25 fl_A_55 rfl h9 (of_decide_eq_true h10) ?_
      obtain ⟨h11, h⟩ := gdN h
      obtain ⟨h12, h⟩ := gdN h
      refine zz_getr C ddA_queue_28 fl_A_202 rfl h11 (of_decide_eq_true h12) ?_
      refine zz_aload_n C 0 ddA_queue_31 rfl rfl ?_
      refine zz_getr C ddA_queue_32 fl_A_55 rfl h9 (of_decide_eq_true h10) ?_
      refine zz_iload_n C 1 ddA_queue_35 rfl rfl ?_
      refine zz_iload_n C 2 ddA_queue_36 rfl rfl ?_
      obtain ⟨q13, hq13, h⟩ := bindN h
      refine zz_callV0 (As := [.int v1, .int v2]) C ddA_queue_37 wd_627 my_H_queueOf mv_H_queueOf ⟨_, rfl, rfl⟩ (xH_queueOf hG (d - 1) (by omega) hq13) (by omega) h11 rfl rfl (Nat.le_of_ble_eq_true rfl) ?_
      refine zz_iload_n C 3 ddA_queue_40 rfl rfl ?_
      obtain ⟨h15, h⟩ := gdN h
      obtain ⟨q14, hq14, h⟩ := bindN h
      refine zz_callV0 (As := [.int q13.1, .int v3]) C ddA_queue_41 wd_590 my_C_thingAt mv_C_thingAt ⟨_, rfl, rfl⟩ (xC_thingAt hG (d - 1) (by omega) hq14) (by omega) h15 rfl rfl (Nat.le_of_ble_eq_true rfl) ?_
      obtain rfl := Option.some.inj h
      exact zz_iret C E ddA_queue_44
    · replace h := iteT h hc
      refine zz_loc (L1 := []) [] rfl ?_
      exact zBA_queue_22 hG C N hD hd E h
theorem ddA_outbox_0 : decode cA_outbox 0 = .ok (.aload_n 0, 1) := by decide +kernel
theorem ddA_outbox_1 : decode cA_outbox 1 = .ok (.getfield 55, 3) := by decide +kernel
theorem ddA_outbox_4 : decode cA_outbox 4 = .ok (.iload_n 1, 1) := by decide +kernel
theorem ddA_outbox_5 : decode cA_outbox 5 = .ok (.invokevirtual 187, 3) := by decide +kernel
theorem ddA_outbox_8 : decode cA_outbox 8 = .ok (.ifCond .eq 14, 3) := by decide +kernel
theorem ddA_outbox_11 : decode cA_outbox 11 = .ok (.aload_n 0, 1) := by decide +kernel
theorem ddA_outbox_12 : decode cA_outbox 12 = .ok (.getfield 55, 3) := by decide +kernel
theorem ddA_outbox_15 : decode cA_outbox 15 = .ok (.iload_n 2, 1) := by decide +kernel
theorem ddA_outbox_16 : decode cA_outbox 16 = .ok (.invokevirtual 146, 3) := by decide +kernel
theorem ddA_outbox_19 : decode cA_outbox 19 = .ok (.ifCond .ne 5, 3) := by decide +kernel
theorem ddA_outbox_22 : decode cA_outbox 22 = .ok (.iconst (-1), 1) := by decide +kernel
theorem ddA_outbox_23 : decode cA_outbox 23 = .ok (.ireturn, 1) := by decide +kernel
theorem ddA_outbox_24 : decode cA_outbox 24 = .ok (.aload_n 0, 1) := by decide +kernel
theorem ddA_outbox_25 : decode cA_outbox 25 = .ok (.getfield 55, 3) := by decide +kernel
theorem ddA_outbox_28 : decode cA_outbox 28 = .ok (.aload_n 0, 1) := by decide +kernel
theorem ddA_outbox_29 : decode cA_outbox 29 = .ok (.getfield 55, 3) := by decide +kernel
theorem ddA_outbox_32 : decode cA_outbox 32 = .ok (.getfield 172, 3) := by decide +kernel
theorem ddA_outbox_35 : decode cA_outbox 35 = .ok (.aload_n 0, 1) := by decide +kernel
theorem ddA_outbox_36 : decode cA_outbox 36 = .ok (.getfield 55, 3) := by decide +kernel
theorem ddA_outbox_39 : decode cA_outbox 39 = .ok (.iload_n 1, 1) := by decide +kernel
theorem ddA_outbox_40 : decode cA_outbox 40 = .ok (.iload_n 2, 1) := by decide +kernel
theorem ddA_outbox_41 : decode cA_outbox 41 = .ok (.invokevirtual 208, 3) := by decide +kernel
theorem ddA_outbox_44 : decode cA_outbox 44 = .ok (.iload_n 3, 1) := by decide +kernel
theorem ddA_outbox_45 : decode cA_outbox 45 = .ok (.invokevirtual 179, 3) := by decide +kernel
theorem ddA_outbox_48 : decode cA_outbox 48 = .ok (.invokevirtual 184, 3) := by decide +kernel
theorem ddA_outbox_51 : decode cA_outbox 51 = .ok (.ireturn, 1) := by decide +kernel
set_option maxHeartbeats 2000000 in
theorem zBA_outbox_22 {G : GXM} {X : CxM} (hG : GokM G) (C : CoM G X cA_outbox "HomeFreed") (N : mLM X = 4) {d : Nat} (hD : dpM X = d) (hd : 1 ≤ d)  {q : Int32 × Mem} (E : EnM G X (some .int) (some (.int q.1)) q.2 0 0) {M : Mem} (h : BA_outbox_22 M = some q) : ZM G X 22 [] [] M 0 0 := by
  unfold BA_outbox_22 at h
  refine zz_iconst (v := (-1)) C ddA_outbox_22 (by decide) ?_
  obtain rfl := Option.some.inj h
  exact zz_iret C E ddA_outbox_23
set_option maxHeartbeats 2000000 in
theorem xA_outbox {G : GXM} {l : Launch} (hG : GokM G) (d : Nat) (hd : 1 ≤ d) {v0 : Nat} {v1 : Int32} {v2 : Int32} {v3 : Int32} {M : Mem} {q : Int32 × Mem} (h : fA_outbox v0 v1 v2 v3 M = some q) : ExM G l d 0 0 yA_outbox cA_outbox 4 (some .int) [.ref v0, .int v1, .int v2, .int v3] M (some (.int q.1)) q.2 := by
  refine ex_of hG (by decide +kernel) (Nat.le_of_ble_eq_true rfl) ?_
  intro X hl C E N hD hn
  show ZM G X 0 [(0, .ref v0), (1, .int v1), (2, .int v2), (3, .int v3)] [] M 0 0
  unfold fA_outbox at h
  refine zz_aload_n C 0 ddA_outbox_0 rfl rfl ?_
  obtain ⟨h1, h⟩ := gdN h
  obtain ⟨h2, h⟩ := gdN h
  refine zz_getr C ddA_outbox_1 fl_A_55 rfl h1 (of_decide_eq_true h2) ?_
  refine zz_iload_n C 1 ddA_outbox_4 rfl rfl ?_
  obtain ⟨h4, h⟩ := gdN h
  obtain ⟨q3, hq3, h⟩ := bindN h
  refine zz_callV0 (As := [.int v1]) C ddA_outbox_5 wd_602 my_H_isThread mv_H_isThread ⟨_, rfl, rfl⟩ (xH_isThread hG (d - 1) (by omega) hq3) (by omega) h4 rfl rfl (Nat.le_of_ble_eq_true rfl) ?_
  refine zz_if_eq (tgt := 22) C ddA_outbox_8 rfl (fun hc => ?_) (fun hc => ?_)
  · replace h := iteT h hc
    refine zz_loc (L1 := []) [] rfl ?_
    exact zBA_outbox_22 hG C N hD hd E h
  · replace h := iteF h hc
    refine zz_aload_n C 0 ddA_outbox_11 rfl rfl ?_
    obtain ⟨h5, h⟩ := gdN h
    obtain ⟨h6, h⟩ := gdN h
    refine zz_getr C ddA_outbox_12 fl_A_55 rfl h5 (of_decide_eq_true h6) ?_
    refine zz_iload_n C 2 ddA_outbox_15 rfl rfl ?_
    obtain ⟨h8, h⟩ := gdN h
    obtain ⟨q7, hq7, h⟩ := bindN h
    refine zz_callV0 (As := [.int v2]) C ddA_outbox_16 wd_582 my_H_isPage mv_H_isPage ⟨_, rfl, rfl⟩ (xH_isPage hG (d - 1) (by omega) hq7) (by omega) h8 rfl rfl (Nat.le_of_ble_eq_true rfl) ?_
    refine zz_if_ne (tgt := 24) C ddA_outbox_19 rfl (fun hc => ?_) (fun hc => ?_)
    · replace h := iteF h hc
      refine zz_aload_n C 0 ddA_outbox_24 rfl rfl ?_
      obtain ⟨h9, h⟩ := gdN h
      obtain ⟨h10, h⟩ := gdN h
      refine zz_getr C ddA_outbox_25 fl_A_55 rfl h9 (of_decide_eq_true h10) ?_
      refine zz_aload_n C 0 ddA_outbox_28 rfl rfl ?_
      refine zz_getr C ddA_outbox_29 fl_A_55 rfl h9 (of_decide_eq_true h10) ?_
      obtain ⟨h11, h⟩ := gdN h
      obtain ⟨h12, h⟩ := gdN h
      refine zz_getr C ddA_outbox_32 fl_A_172 rfl h11 (of_decide_eq_true h12) ?_
      refine zz_aload_n C 0 ddA_outbox_35 rfl rfl ?_
      refine zz_getr C ddA_outbox_36 fl_A_55 rfl h9 (of_decide_eq_true h10) ?_
      refine zz_iload_n C 1 ddA_outbox_39 rfl rfl ?_
      refine zz_iload_n C 2 ddA_outbox_40 rfl rfl ?_
      obtain ⟨q13, hq13, h⟩ := bindN h
      refine zz_callV0 (As := [.int v1, .int v2]) C ddA_outbox_41 wd_635 my_H_outboxOf mv_H_outboxOf ⟨_, rfl, rfl⟩ (xH_outboxOf hG (d - 1) (by omega) hq13) (by omega) h11 rfl rfl (Nat.le_of_ble_eq_true rfl) ?_
      refine zz_iload_n C 3 ddA_outbox_44 rfl rfl ?_
      obtain ⟨h15, h⟩ := gdN h
      obtain ⟨q14, hq14, h⟩ := bindN h
      refine zz_callV0 (As := [.int q13.1, .int v3]) C ddA_outbox_45 wd_590 my_C_thingAt mv_C_thingAt ⟨_, rfl, rfl⟩ (xC_thingAt hG (d - 1) (by omega) hq14) (by omega) h15 rfl rfl (Nat.le_of_ble_eq_true rfl) ?_
      obtain ⟨h17, h⟩ := gdN h
      obtain ⟨q16, hq16, h⟩ := bindN h
      refine zz_callV0 (As := [.int q14.1]) C ddA_outbox_48 wd_594 my_H_ownNumber mv_H_ownNumber ⟨_, rfl, rfl⟩ (xH_ownNumber hG (d - 1) (by omega) hq16) (by omega) h17 rfl rfl (Nat.le_of_ble_eq_true rfl) ?_
      obtain rfl := Option.some.inj h
      exact zz_iret C E ddA_outbox_51
    · replace h := iteT h hc
      refine zz_loc (L1 := []) [] rfl ?_
      exact zBA_outbox_22 hG C N hD hd E h
theorem ddH_isBlock_0 : decode cH_isBlock 0 = .ok (.iload_n 1, 1) := by decide +kernel
theorem ddH_isBlock_1 : decode cH_isBlock 1 = .ok (.bipush 100, 2) := by decide +kernel
theorem ddH_isBlock_3 : decode cH_isBlock 3 = .ok (.idiv, 1) := by decide +kernel
theorem ddH_isBlock_4 : decode cH_isBlock 4 = .ok (.istore_n 2, 1) := by decide +kernel
theorem ddH_isBlock_5 : decode cH_isBlock 5 = .ok (.iload_n 1, 1) := by decide +kernel
theorem ddH_isBlock_6 : decode cH_isBlock 6 = .ok (.ifCond .lt 33, 3) := by decide +kernel
theorem ddH_isBlock_9 : decode cH_isBlock 9 = .ok (.iload_n 2, 1) := by decide +kernel
theorem ddH_isBlock_10 : decode cH_isBlock 10 = .ok (.aload_n 0, 1) := by decide +kernel
theorem ddH_isBlock_11 : decode cH_isBlock 11 = .ok (.getfield 46, 3) := by decide +kernel
theorem ddH_isBlock_14 : decode cH_isBlock 14 = .ok (.getfield 76, 3) := by decide +kernel
theorem ddH_isBlock_17 : decode cH_isBlock 17 = .ok (.iconst 1, 1) := by decide +kernel
theorem ddH_isBlock_18 : decode cH_isBlock 18 = .ok (.iaload, 1) := by decide +kernel
theorem ddH_isBlock_19 : decode cH_isBlock 19 = .ok (.if_icmp .ge 20, 3) := by decide +kernel
theorem ddH_isBlock_22 : decode cH_isBlock 22 = .ok (.iload_n 1, 1) := by decide +kernel
theorem ddH_isBlock_23 : decode cH_isBlock 23 = .ok (.bipush 100, 2) := by decide +kernel
theorem ddH_isBlock_25 : decode cH_isBlock 25 = .ok (.irem, 1) := by decide +kernel
theorem ddH_isBlock_26 : decode cH_isBlock 26 = .ok (.aload_n 0, 1) := by decide +kernel
theorem ddH_isBlock_27 : decode cH_isBlock 27 = .ok (.getfield 18, 3) := by decide +kernel
theorem ddH_isBlock_30 : decode cH_isBlock 30 = .ok (.iload_n 2, 1) := by decide +kernel
theorem ddH_isBlock_31 : decode cH_isBlock 31 = .ok (.iaload, 1) := by decide +kernel
theorem ddH_isBlock_32 : decode cH_isBlock 32 = .ok (.if_icmp .ge 7, 3) := by decide +kernel
theorem ddH_isBlock_35 : decode cH_isBlock 35 = .ok (.iconst 1, 1) := by decide +kernel
theorem ddH_isBlock_36 : decode cH_isBlock 36 = .ok (.goto 4, 3) := by decide +kernel
theorem ddH_isBlock_39 : decode cH_isBlock 39 = .ok (.iconst 0, 1) := by decide +kernel
theorem ddH_isBlock_40 : decode cH_isBlock 40 = .ok (.ireturn, 1) := by decide +kernel
set_option maxHeartbeats 2000000 in
theorem zBH_isBlock_40 {G : GXM} {X : CxM} (hG : GokM G) (C : CoM G X cH_isBlock "HomeFreed$Heap") (N : mLM X = 3) {d : Nat} (hD : dpM X = d) (hd : 0 ≤ d)  {q : Int32 × Mem} (E : EnM G X (some .boolean) (some (.int q.1)) q.2 0 0) {w0 : Int32} {M : Mem} (h : BH_isBlock_40 w0 M = some q) : ZM G X 40 [] [.int w0] M 0 0 := by
  unfold BH_isBlock_40 at h
  obtain ⟨h1, h⟩ := gdN h
  obtain rfl := Option.some.inj h
  exact zz_zret C (of_decide_eq_true h1) E ddH_isBlock_40
set_option maxHeartbeats 2000000 in
theorem zBH_isBlock_39 {G : GXM} {X : CxM} (hG : GokM G) (C : CoM G X cH_isBlock "HomeFreed$Heap") (N : mLM X = 3) {d : Nat} (hD : dpM X = d) (hd : 0 ≤ d)  {q : Int32 × Mem} (E : EnM G X (some .boolean) (some (.int q.1)) q.2 0 0) {M : Mem} (h : BH_isBlock_39 M = some q) : ZM G X 39 [] [] M 0 0 := by
  unfold BH_isBlock_39 at h
  refine zz_iconst (v := 0) C ddH_isBlock_39 (by decide) ?_
  exact zBH_isBlock_40 hG C N hD hd E h
set_option maxHeartbeats 2000000 in
theorem xH_isBlock {G : GXM} {l : Launch} (hG : GokM G) (d : Nat) (hd : 0 ≤ d) {v0 : Nat} {v1 : Int32} {M : Mem} {q : Int32 × Mem} (h : fH_isBlock v0 v1 M = some q) : ExM G l d 0 0 yH_isBlock cH_isBlock 3 (some .boolean) [.ref v0, .int v1] M (some (.int q.1)) q.2 := by
  refine ex_of hG (by decide +kernel) (Nat.le_of_ble_eq_true rfl) ?_
  intro X hl C E N hD hn
  show ZM G X 0 [(0, .ref v0), (1, .int v1)] [] M 0 0
  unfold fH_isBlock at h
  refine zz_iload_n C 1 ddH_isBlock_0 rfl rfl ?_
  refine zz_bipush (v := 100) C ddH_isBlock_1 (by decide) ?_
  refine zz_idiv C ddH_isBlock_3 (by decide) ?_
  refine zz_istore_n (L1 := [(2, .int (v1 / 100)), (0, .ref v0), (1, .int v1)]) C ddH_isBlock_4 rfl N (by decide) rfl ?_
  refine zz_iload_n C 2 ddH_isBlock_5 rfl rfl ?_
  refine zz_if_lt (tgt := 39) C ddH_isBlock_6 rfl (fun hc => ?_) (fun hc => ?_)
  · replace h := iteT h hc
    refine zz_loc (L1 := []) [] rfl ?_
    exact zBH_isBlock_39 hG C N hD hd E h
  · replace h := iteF h hc
    refine zz_iload_n C 0 ddH_isBlock_9 rfl rfl ?_
    refine zz_aload_n C 1 ddH_isBlock_10 rfl rfl ?_
    obtain ⟨h1, h⟩ := gdN h
    obtain ⟨h2, h⟩ := gdN h
    refine zz_getr C ddH_isBlock_11 fl_H_46 rfl h1 (of_decide_eq_true h2) ?_
    obtain ⟨h3, h⟩ := gdN h
    obtain ⟨h4, h⟩ := gdN h
    refine zz_getr C ddH_isBlock_14 fl_H_76 rfl h3 (of_decide_eq_true h4) ?_
    refine zz_iconst (v := 1) C ddH_isBlock_17 (by decide) ?_
    obtain ⟨h5, h⟩ := gdN h
    refine zz_iaload C ddH_isBlock_18 h5 ?_
    refine zz_icmp_ge (tgt := 39) C ddH_isBlock_19 rfl (fun hc => ?_) (fun hc => ?_)
    · replace h := iteT h hc
      refine zz_loc (L1 := []) [] rfl ?_
      exact zBH_isBlock_39 hG C N hD hd E h
    · replace h := iteF h hc
      refine zz_iload_n C 2 ddH_isBlock_22 rfl rfl ?_
      refine zz_bipush (v := 100) C ddH_isBlock_23 (by decide) ?_
      refine zz_irem C ddH_isBlock_25 (by decide) ?_
      refine zz_aload_n C 1 ddH_isBlock_26 rfl rfl ?_
      obtain ⟨h6, h⟩ := gdN h
      refine zz_getr C ddH_isBlock_27 fl_H_18 rfl h1 (of_decide_eq_true h6) ?_
      refine zz_iload_n C 0 ddH_isBlock_30 rfl rfl ?_
      obtain ⟨h7, h⟩ := gdN h
      refine zz_iaload C ddH_isBlock_31 h7 ?_
      refine zz_icmp_ge (tgt := 39) C ddH_isBlock_32 rfl (fun hc => ?_) (fun hc => ?_)
      · replace h := iteT h hc
        refine zz_loc (L1 := []) [] rfl ?_
        exact zBH_isBlock_39 hG C N hD hd E h
      · replace h := iteF h hc
        refine zz_iconst (v := 1) C ddH_isBlock_35 (by decide) ?_
        refine zz_goto (tgt := 40) C ddH_isBlock_36 rfl ?_
        refine zz_loc (L1 := []) [] rfl ?_
        exact zBH_isBlock_40 hG C N hD hd E h
theorem ddH_thingOf_0 : decode cH_thingOf 0 = .ok (.iload_n 1, 1) := by decide +kernel
theorem ddH_thingOf_1 : decode cH_thingOf 1 = .ok (.bipush 100, 2) := by decide +kernel
theorem ddH_thingOf_3 : decode cH_thingOf 3 = .ok (.idiv, 1) := by decide +kernel
theorem ddH_thingOf_4 : decode cH_thingOf 4 = .ok (.bipush 40, 2) := by decide +kernel
theorem ddH_thingOf_6 : decode cH_thingOf 6 = .ok (.imul, 1) := by decide +kernel
theorem ddH_thingOf_7 : decode cH_thingOf 7 = .ok (.iload_n 1, 1) := by decide +kernel
theorem ddH_thingOf_8 : decode cH_thingOf 8 = .ok (.bipush 100, 2) := by decide +kernel
theorem ddH_thingOf_10 : decode cH_thingOf 10 = .ok (.irem, 1) := by decide +kernel
theorem ddH_thingOf_11 : decode cH_thingOf 11 = .ok (.iadd, 1) := by decide +kernel
theorem ddH_thingOf_12 : decode cH_thingOf 12 = .ok (.ireturn, 1) := by decide +kernel
set_option maxHeartbeats 2000000 in
theorem xH_thingOf {G : GXM} {l : Launch} (hG : GokM G) (d : Nat) (hd : 0 ≤ d) {v0 : Nat} {v1 : Int32} {M : Mem} {q : Int32 × Mem} (h : fH_thingOf v0 v1 M = some q) : ExM G l d 0 0 yH_thingOf cH_thingOf 2 (some .int) [.ref v0, .int v1] M (some (.int q.1)) q.2 := by
  refine ex_of hG (by decide +kernel) (Nat.le_of_ble_eq_true rfl) ?_
  intro X hl C E N hD hn
  show ZM G X 0 [(0, .ref v0), (1, .int v1)] [] M 0 0
  unfold fH_thingOf at h
  refine zz_iload_n C 1 ddH_thingOf_0 rfl rfl ?_
  refine zz_bipush (v := 100) C ddH_thingOf_1 (by decide) ?_
  refine zz_idiv C ddH_thingOf_3 (by decide) ?_
  refine zz_bipush (v := 40) C ddH_thingOf_4 (by decide) ?_
  refine zz_imul C ddH_thingOf_6 ?_
  refine zz_iload_n C 1 ddH_thingOf_7 rfl rfl ?_
  refine zz_bipush (v := 100) C ddH_thingOf_8 (by decide) ?_
  refine zz_irem C ddH_thingOf_10 (by decide) ?_
  refine zz_iadd C ddH_thingOf_11 ?_
  obtain rfl := Option.some.inj h
  exact zz_iret C E ddH_thingOf_12
theorem ddH_isHeld_0 : decode cH_isHeld 0 = .ok (.aload_n 0, 1) := by decide +kernel
theorem ddH_isHeld_1 : decode cH_isHeld 1 = .ok (.iload_n 1, 1) := by decide +kernel
theorem ddH_isHeld_2 : decode cH_isHeld 2 = .ok (.invokevirtual 85, 3) := by decide +kernel
theorem ddH_isHeld_5 : decode cH_isHeld 5 = .ok (.ifCond .eq 24, 3) := by decide +kernel
theorem ddH_isHeld_8 : decode cH_isHeld 8 = .ok (.aload_n 0, 1) := by decide +kernel
theorem ddH_isHeld_9 : decode cH_isHeld 9 = .ok (.getfield 30, 3) := by decide +kernel
theorem ddH_isHeld_12 : decode cH_isHeld 12 = .ok (.getfield 88, 3) := by decide +kernel
theorem ddH_isHeld_15 : decode cH_isHeld 15 = .ok (.aload_n 0, 1) := by decide +kernel
theorem ddH_isHeld_16 : decode cH_isHeld 16 = .ok (.iload_n 1, 1) := by decide +kernel
theorem ddH_isHeld_17 : decode cH_isHeld 17 = .ok (.invokevirtual 91, 3) := by decide +kernel
theorem ddH_isHeld_20 : decode cH_isHeld 20 = .ok (.iaload, 1) := by decide +kernel
theorem ddH_isHeld_21 : decode cH_isHeld 21 = .ok (.iconst (-1), 1) := by decide +kernel
theorem ddH_isHeld_22 : decode cH_isHeld 22 = .ok (.if_icmp .ne 7, 3) := by decide +kernel
theorem ddH_isHeld_25 : decode cH_isHeld 25 = .ok (.iconst 1, 1) := by decide +kernel
theorem ddH_isHeld_26 : decode cH_isHeld 26 = .ok (.goto 4, 3) := by decide +kernel
theorem ddH_isHeld_29 : decode cH_isHeld 29 = .ok (.iconst 0, 1) := by decide +kernel
theorem ddH_isHeld_30 : decode cH_isHeld 30 = .ok (.ireturn, 1) := by decide +kernel
set_option maxHeartbeats 2000000 in
theorem zBH_isHeld_30 {G : GXM} {X : CxM} (hG : GokM G) (C : CoM G X cH_isHeld "HomeFreed$Heap") (N : mLM X = 2) {d : Nat} (hD : dpM X = d) (hd : 1 ≤ d)  {q : Int32 × Mem} (E : EnM G X (some .boolean) (some (.int q.1)) q.2 0 0) {w0 : Int32} {M : Mem} (h : BH_isHeld_30 w0 M = some q) : ZM G X 30 [] [.int w0] M 0 0 := by
  unfold BH_isHeld_30 at h
  obtain ⟨h1, h⟩ := gdN h
  obtain rfl := Option.some.inj h
  exact zz_zret C (of_decide_eq_true h1) E ddH_isHeld_30
set_option maxHeartbeats 2000000 in
theorem zBH_isHeld_29 {G : GXM} {X : CxM} (hG : GokM G) (C : CoM G X cH_isHeld "HomeFreed$Heap") (N : mLM X = 2) {d : Nat} (hD : dpM X = d) (hd : 1 ≤ d)  {q : Int32 × Mem} (E : EnM G X (some .boolean) (some (.int q.1)) q.2 0 0) {M : Mem} (h : BH_isHeld_29 M = some q) : ZM G X 29 [] [] M 0 0 := by
  unfold BH_isHeld_29 at h
  refine zz_iconst (v := 0) C ddH_isHeld_29 (by decide) ?_
  exact zBH_isHeld_30 hG C N hD hd E h
set_option maxHeartbeats 2000000 in
theorem xH_isHeld {G : GXM} {l : Launch} (hG : GokM G) (d : Nat) (hd : 1 ≤ d) {v0 : Nat} {v1 : Int32} {M : Mem} {q : Int32 × Mem} (h : fH_isHeld v0 v1 M = some q) : ExM G l d 0 0 yH_isHeld cH_isHeld 2 (some .boolean) [.ref v0, .int v1] M (some (.int q.1)) q.2 := by
  refine ex_of hG (by decide +kernel) (Nat.le_of_ble_eq_true rfl) ?_
  intro X hl C E N hD hn
  show ZM G X 0 [(0, .ref v0), (1, .int v1)] [] M 0 0
  unfold fH_isHeld at h
  refine zz_aload_n C 0 ddH_isHeld_0 rfl rfl ?_
  refine zz_iload_n C 1 ddH_isHeld_1 rfl rfl ?_
  obtain ⟨h2, h⟩ := gdN h
  obtain ⟨q1, hq1, h⟩ := bindN h
  refine zz_callV0 (As := [.int v1]) C ddH_isHeld_2 wd_648 my_H_isBlock mv_H_isBlock ⟨_, rfl, rfl⟩ (xH_isBlock hG (d - 1) (by omega) hq1) (by omega) h2 rfl rfl (Nat.le_of_ble_eq_true rfl) ?_
  refine zz_if_eq (tgt := 29) C ddH_isHeld_5 rfl (fun hc => ?_) (fun hc => ?_)
  · replace h := iteT h hc
    refine zz_loc (L1 := []) [] rfl ?_
    exact zBH_isHeld_29 hG C N hD hd E h
  · replace h := iteF h hc
    refine zz_aload_n C 0 ddH_isHeld_8 rfl rfl ?_
    obtain ⟨h3, h⟩ := gdN h
    obtain ⟨h4, h⟩ := gdN h
    refine zz_getr C ddH_isHeld_9 fl_H_30 rfl h3 (of_decide_eq_true h4) ?_
    obtain ⟨h5, h⟩ := gdN h
    obtain ⟨h6, h⟩ := gdN h
    refine zz_getr C ddH_isHeld_12 fl_H_88 rfl h5 (of_decide_eq_true h6) ?_
    refine zz_aload_n C 0 ddH_isHeld_15 rfl rfl ?_
    refine zz_iload_n C 1 ddH_isHeld_16 rfl rfl ?_
    obtain ⟨q7, hq7, h⟩ := bindN h
    refine zz_callV0 (As := [.int v1]) C ddH_isHeld_17 wd_649 my_H_thingOf mv_H_thingOf ⟨_, rfl, rfl⟩ (xH_thingOf hG (d - 1) (by omega) hq7) (by omega) h3 rfl rfl (Nat.le_of_ble_eq_true rfl) ?_
    obtain ⟨h8, h⟩ := gdN h
    refine zz_iaload C ddH_isHeld_20 h8 ?_
    refine zz_iconst (v := (-1)) C ddH_isHeld_21 (by decide) ?_
    refine zz_icmp_ne (tgt := 29) C ddH_isHeld_22 rfl (fun hc => ?_) (fun hc => ?_)
    · replace h := iteF h hc
      refine zz_loc (L1 := []) [] rfl ?_
      exact zBH_isHeld_29 hG C N hD hd E h
    · replace h := iteT h hc
      refine zz_iconst (v := 1) C ddH_isHeld_25 (by decide) ?_
      refine zz_goto (tgt := 30) C ddH_isHeld_26 rfl ?_
      refine zz_loc (L1 := []) [] rfl ?_
      exact zBH_isHeld_30 hG C N hD hd E h
theorem ddA_held_0 : decode cA_held 0 = .ok (.aload_n 0, 1) := by decide +kernel
theorem ddA_held_1 : decode cA_held 1 = .ok (.getfield 55, 3) := by decide +kernel
theorem ddA_held_4 : decode cA_held 4 = .ok (.iload_n 1, 1) := by decide +kernel
theorem ddA_held_5 : decode cA_held 5 = .ok (.invokevirtual 211, 3) := by decide +kernel
theorem ddA_held_8 : decode cA_held 8 = .ok (.ifCond .ne 5, 3) := by decide +kernel
theorem ddA_held_11 : decode cA_held 11 = .ok (.iconst (-1), 1) := by decide +kernel
theorem ddA_held_12 : decode cA_held 12 = .ok (.ireturn, 1) := by decide +kernel
theorem ddA_held_13 : decode cA_held 13 = .ok (.aload_n 0, 1) := by decide +kernel
theorem ddA_held_14 : decode cA_held 14 = .ok (.getfield 55, 3) := by decide +kernel
theorem ddA_held_17 : decode cA_held 17 = .ok (.iload_n 1, 1) := by decide +kernel
theorem ddA_held_18 : decode cA_held 18 = .ok (.invokevirtual 214, 3) := by decide +kernel
theorem ddA_held_21 : decode cA_held 21 = .ok (.ifCond .eq 7, 3) := by decide +kernel
theorem ddA_held_24 : decode cA_held 24 = .ok (.iconst 1, 1) := by decide +kernel
theorem ddA_held_25 : decode cA_held 25 = .ok (.goto 4, 3) := by decide +kernel
theorem ddA_held_28 : decode cA_held 28 = .ok (.iconst 0, 1) := by decide +kernel
theorem ddA_held_29 : decode cA_held 29 = .ok (.ireturn, 1) := by decide +kernel
set_option maxHeartbeats 2000000 in
theorem zBA_held_29 {G : GXM} {X : CxM} (hG : GokM G) (C : CoM G X cA_held "HomeFreed") (N : mLM X = 2) {d : Nat} (hD : dpM X = d) (hd : 2 ≤ d)  {q : Int32 × Mem} (E : EnM G X (some .int) (some (.int q.1)) q.2 0 0) {w0 : Int32} {M : Mem} (h : BA_held_29 w0 M = some q) : ZM G X 29 [] [.int w0] M 0 0 := by
  unfold BA_held_29 at h
  obtain rfl := Option.some.inj h
  exact zz_iret C E ddA_held_29
set_option maxHeartbeats 2000000 in
theorem xA_held {G : GXM} {l : Launch} (hG : GokM G) (d : Nat) (hd : 2 ≤ d) {v0 : Nat} {v1 : Int32} {M : Mem} {q : Int32 × Mem} (h : fA_held v0 v1 M = some q) : ExM G l d 0 0 yA_held cA_held 2 (some .int) [.ref v0, .int v1] M (some (.int q.1)) q.2 := by
  refine ex_of hG (by decide +kernel) (Nat.le_of_ble_eq_true rfl) ?_
  intro X hl C E N hD hn
  show ZM G X 0 [(0, .ref v0), (1, .int v1)] [] M 0 0
  unfold fA_held at h
  refine zz_aload_n C 0 ddA_held_0 rfl rfl ?_
  obtain ⟨h1, h⟩ := gdN h
  obtain ⟨h2, h⟩ := gdN h
  refine zz_getr C ddA_held_1 fl_A_55 rfl h1 (of_decide_eq_true h2) ?_
  refine zz_iload_n C 1 ddA_held_4 rfl rfl ?_
  obtain ⟨h4, h⟩ := gdN h
  obtain ⟨q3, hq3, h⟩ := bindN h
  refine zz_callV0 (As := [.int v1]) C ddA_held_5 wd_640 my_H_isBlock mv_H_isBlock ⟨_, rfl, rfl⟩ (xH_isBlock hG (d - 1) (by omega) hq3) (by omega) h4 rfl rfl (Nat.le_of_ble_eq_true rfl) ?_
  refine zz_if_ne (tgt := 13) C ddA_held_8 rfl (fun hc => ?_) (fun hc => ?_)
  · replace h := iteF h hc
    refine zz_aload_n C 0 ddA_held_13 rfl rfl ?_
    obtain ⟨h5, h⟩ := gdN h
    obtain ⟨h6, h⟩ := gdN h
    refine zz_getr C ddA_held_14 fl_A_55 rfl h5 (of_decide_eq_true h6) ?_
    refine zz_iload_n C 1 ddA_held_17 rfl rfl ?_
    obtain ⟨h8, h⟩ := gdN h
    obtain ⟨q7, hq7, h⟩ := bindN h
    refine zz_callV0 (As := [.int v1]) C ddA_held_18 wd_644 my_H_isHeld mv_H_isHeld ⟨_, rfl, rfl⟩ (xH_isHeld hG (d - 1) (by omega) hq7) (by omega) h8 rfl rfl (Nat.le_of_ble_eq_true rfl) ?_
    refine zz_if_eq (tgt := 28) C ddA_held_21 rfl (fun hc => ?_) (fun hc => ?_)
    · replace h := iteT h hc
      refine zz_iconst (v := 0) C ddA_held_28 (by decide) ?_
      refine zz_loc (L1 := []) [] rfl ?_
      exact zBA_held_29 hG C N hD hd E h
    · replace h := iteF h hc
      refine zz_iconst (v := 1) C ddA_held_24 (by decide) ?_
      refine zz_goto (tgt := 29) C ddA_held_25 rfl ?_
      refine zz_loc (L1 := []) [] rfl ?_
      exact zBA_held_29 hG C N hD hd E h
  · replace h := iteT h hc
    refine zz_iconst (v := (-1)) C ddA_held_11 (by decide) ?_
    obtain rfl := Option.some.inj h
    exact zz_iret C E ddA_held_12
theorem ddA_refuse_0 : decode cA_refuse 0 = .ok (.iload_n 1, 1) := by decide +kernel
theorem ddA_refuse_1 : decode cA_refuse 1 = .ok (.ifCond .lt 22, 3) := by decide +kernel
theorem ddA_refuse_4 : decode cA_refuse 4 = .ok (.iload_n 1, 1) := by decide +kernel
theorem ddA_refuse_5 : decode cA_refuse 5 = .ok (.aload_n 0, 1) := by decide +kernel
theorem ddA_refuse_6 : decode cA_refuse 6 = .ok (.getfield 73, 3) := by decide +kernel
theorem ddA_refuse_9 : decode cA_refuse 9 = .ok (.arraylength, 1) := by decide +kernel
theorem ddA_refuse_10 : decode cA_refuse 10 = .ok (.if_icmp .ge 13, 3) := by decide +kernel
theorem ddA_refuse_13 : decode cA_refuse 13 = .ok (.aload_n 0, 1) := by decide +kernel
theorem ddA_refuse_14 : decode cA_refuse 14 = .ok (.getfield 73, 3) := by decide +kernel
theorem ddA_refuse_17 : decode cA_refuse 17 = .ok (.iload_n 1, 1) := by decide +kernel
theorem ddA_refuse_18 : decode cA_refuse 18 = .ok (.dup2, 1) := by decide +kernel
theorem ddA_refuse_19 : decode cA_refuse 19 = .ok (.iaload, 1) := by decide +kernel
theorem ddA_refuse_20 : decode cA_refuse 20 = .ok (.iconst 1, 1) := by decide +kernel
theorem ddA_refuse_21 : decode cA_refuse 21 = .ok (.iadd, 1) := by decide +kernel
theorem ddA_refuse_22 : decode cA_refuse 22 = .ok (.iastore, 1) := by decide +kernel
theorem ddA_refuse_23 : decode cA_refuse 23 = .ok (.iconst (-1), 1) := by decide +kernel
theorem ddA_refuse_24 : decode cA_refuse 24 = .ok (.ireturn, 1) := by decide +kernel
set_option maxHeartbeats 2000000 in
theorem zBA_refuse_23 {G : GXM} {X : CxM} (hG : GokM G) (C : CoM G X cA_refuse "HomeFreed") (N : mLM X = 2) {d : Nat} (hD : dpM X = d) (hd : 0 ≤ d)  {q : Int32 × Mem} (E : EnM G X (some .int) (some (.int q.1)) q.2 0 0) {M : Mem} (h : BA_refuse_23 M = some q) : ZM G X 23 [] [] M 0 0 := by
  unfold BA_refuse_23 at h
  refine zz_iconst (v := (-1)) C ddA_refuse_23 (by decide) ?_
  obtain rfl := Option.some.inj h
  exact zz_iret C E ddA_refuse_24
set_option maxHeartbeats 2000000 in
theorem xA_refuse {G : GXM} {l : Launch} (hG : GokM G) (d : Nat) (hd : 0 ≤ d) {v0 : Nat} {v1 : Int32} {M : Mem} {q : Int32 × Mem} (h : fA_refuse v0 v1 M = some q) : ExM G l d 0 0 yA_refuse cA_refuse 2 (some .int) [.ref v0, .int v1] M (some (.int q.1)) q.2 := by
  refine ex_of hG (by decide +kernel) (Nat.le_of_ble_eq_true rfl) ?_
  intro X hl C E N hD hn
  show ZM G X 0 [(0, .ref v0), (1, .int v1)] [] M 0 0
  unfold fA_refuse at h
  refine zz_iload_n C 1 ddA_refuse_0 rfl rfl ?_
  refine zz_if_lt (tgt := 23) C ddA_refuse_1 rfl (fun hc => ?_) (fun hc => ?_)
  · replace h := iteT h hc
    refine zz_loc (L1 := []) [] rfl ?_
    exact zBA_refuse_23 hG C N hD hd E h
  · replace h := iteF h hc
    refine zz_iload_n C 1 ddA_refuse_4 rfl rfl ?_
    refine zz_aload_n C 0 ddA_refuse_5 rfl rfl ?_
    obtain ⟨h1, h⟩ := gdN h
    obtain ⟨h2, h⟩ := gdN h
    refine zz_getr C ddA_refuse_6 fl_A_73 rfl h1 (of_decide_eq_true h2) ?_
    obtain ⟨h3, h⟩ := gdN h
    refine zz_alenI C ddA_refuse_9 h3 ?_
    refine zz_icmp_ge (tgt := 23) C ddA_refuse_10 rfl (fun hc => ?_) (fun hc => ?_)
    · replace h := iteT h hc
      refine zz_loc (L1 := []) [] rfl ?_
      exact zBA_refuse_23 hG C N hD hd E h
    · replace h := iteF h hc
      refine zz_aload_n C 0 ddA_refuse_13 rfl rfl ?_
      refine zz_getr C ddA_refuse_14 fl_A_73 rfl h1 (of_decide_eq_true h2) ?_
      refine zz_iload_n C 1 ddA_refuse_17 rfl rfl ?_
      refine zz_dup2 C ddA_refuse_18 rfl rfl ?_
      obtain ⟨h4, h⟩ := gdN h
      refine zz_iaload C ddA_refuse_19 h4 ?_
      refine zz_iconst (v := 1) C ddA_refuse_20 (by decide) ?_
      refine zz_iadd C ddA_refuse_21 ?_
      obtain ⟨h5, h⟩ := gdN h
      refine zz_iastore C ddA_refuse_22 h5 ?_
      refine zz_loc (L1 := []) [] rfl ?_
      exact zBA_refuse_23 hG C N hD hd E h
theorem ddU_kindFor_0 : decode cU_kindFor 0 = .ok (.iconst 0, 1) := by decide +kernel
theorem ddU_kindFor_1 : decode cU_kindFor 1 = .ok (.istore_n 2, 1) := by decide +kernel
theorem ddU_kindFor_2 : decode cU_kindFor 2 = .ok (.iload_n 2, 1) := by decide +kernel
theorem ddU_kindFor_3 : decode cU_kindFor 3 = .ok (.aload_n 0, 1) := by decide +kernel
theorem ddU_kindFor_4 : decode cU_kindFor 4 = .ok (.getfield 18, 3) := by decide +kernel
theorem ddU_kindFor_7 : decode cU_kindFor 7 = .ok (.if_icmp .ge 26, 3) := by decide +kernel
theorem ddU_kindFor_10 : decode cU_kindFor 10 = .ok (.iload_n 1, 1) := by decide +kernel
theorem ddU_kindFor_11 : decode cU_kindFor 11 = .ok (.iconst 1, 1) := by decide +kernel
theorem ddU_kindFor_12 : decode cU_kindFor 12 = .ok (.if_icmp .lt 21, 3) := by decide +kernel
theorem ddU_kindFor_15 : decode cU_kindFor 15 = .ok (.aload_n 0, 1) := by decide +kernel
theorem ddU_kindFor_16 : decode cU_kindFor 16 = .ok (.getfield 15, 3) := by decide +kernel
theorem ddU_kindFor_19 : decode cU_kindFor 19 = .ok (.iload_n 2, 1) := by decide +kernel
theorem ddU_kindFor_20 : decode cU_kindFor 20 = .ok (.iaload, 1) := by decide +kernel
theorem ddU_kindFor_21 : decode cU_kindFor 21 = .ok (.iload_n 1, 1) := by decide +kernel
theorem ddU_kindFor_22 : decode cU_kindFor 22 = .ok (.if_icmp .lt 5, 3) := by decide +kernel
theorem ddU_kindFor_25 : decode cU_kindFor 25 = .ok (.iload_n 2, 1) := by decide +kernel
theorem ddU_kindFor_26 : decode cU_kindFor 26 = .ok (.ireturn, 1) := by decide +kernel
theorem ddU_kindFor_27 : decode cU_kindFor 27 = .ok (.iinc 2 1, 3) := by decide +kernel
theorem ddU_kindFor_30 : decode cU_kindFor 30 = .ok (.goto (-28), 3) := by decide +kernel
theorem ddU_kindFor_33 : decode cU_kindFor 33 = .ok (.iconst (-1), 1) := by decide +kernel
theorem ddU_kindFor_34 : decode cU_kindFor 34 = .ok (.ireturn, 1) := by decide +kernel
set_option maxHeartbeats 2000000 in
theorem zBU_kindFor_33 {G : GXM} {X : CxM} (hG : GokM G) (C : CoM G X cU_kindFor "HomeFreed$Rules") (N : mLM X = 3) {d : Nat} (hD : dpM X = d) (hd : 0 ≤ d)  {q : Int32 × Mem} (E : EnM G X (some .int) (some (.int q.1)) q.2 0 0) {M : Mem} (h : BU_kindFor_33 M = some q) : ZM G X 33 [] [] M 0 0 := by
  unfold BU_kindFor_33 at h
  refine zz_iconst (v := (-1)) C ddU_kindFor_33 (by decide) ?_
  obtain rfl := Option.some.inj h
  exact zz_iret C E ddU_kindFor_34
set_option maxHeartbeats 2000000 in
theorem zBU_kindFor_2 {G : GXM} {X : CxM} (hG : GokM G) (C : CoM G X cU_kindFor "HomeFreed$Rules") (N : mLM X = 3) {d : Nat} (hD : dpM X = d) (hd : 0 ≤ d) {v0 : Nat} {v1 : Int32} {K : Nat → Int32 → Int32 → Mem → Option ((Int32 × Mem) ⊕ (Mem))} {q : (Int32 × Mem) ⊕ (Mem)} (hK : ∀ (v2 : Int32) (M : Mem), K v0 v1 v2 M = some q → ZM G X 2 [(0, .ref v0), (1, .int v1), (2, .int v2)] [] M 0 0) (hr : ∀ r : Int32 × Mem, q = .inl r → EnM G X (some .int) (some (.int r.1)) r.2 0 0) (hx0 : ∀ y : Mem, q = (.inr y) → ZM G X 33 [] [] y 0 0) {v2 : Int32} {M : Mem} (h : BU_kindFor_2 K v0 v1 v2 M = some q) : ZM G X 2 [(0, .ref v0), (1, .int v1), (2, .int v2)] [] M 0 0 := by
  unfold BU_kindFor_2 at h
  refine zz_iload_n C 2 ddU_kindFor_2 rfl rfl ?_
  refine zz_aload_n C 0 ddU_kindFor_3 rfl rfl ?_
  obtain ⟨h1, h⟩ := gdN h
  refine zz_geti C ddU_kindFor_4 fl_U_18 rfl h1 ?_
  refine zz_icmp_ge (tgt := 33) C ddU_kindFor_7 rfl (fun hc => ?_) (fun hc => ?_)
  · replace h := iteT h hc
    refine zz_loc (L1 := []) [] rfl ?_
    exact hx0 _ (Option.some.inj h).symm
  · replace h := iteF h hc
    refine zz_iload_n C 1 ddU_kindFor_10 rfl rfl ?_
    refine zz_iconst (v := 1) C ddU_kindFor_11 (by decide) ?_
    refine zz_icmp_lt (tgt := 33) C ddU_kindFor_12 rfl (fun hc => ?_) (fun hc => ?_)
    · replace h := iteT h hc
      refine zz_loc (L1 := []) [] rfl ?_
      exact hx0 _ (Option.some.inj h).symm
    · replace h := iteF h hc
      refine zz_aload_n C 0 ddU_kindFor_15 rfl rfl ?_
      obtain ⟨h2, h⟩ := gdN h
      refine zz_getr C ddU_kindFor_16 fl_U_15 rfl h1 (of_decide_eq_true h2) ?_
      refine zz_iload_n C 2 ddU_kindFor_19 rfl rfl ?_
      obtain ⟨h3, h⟩ := gdN h
      refine zz_iaload C ddU_kindFor_20 h3 ?_
      refine zz_iload_n C 1 ddU_kindFor_21 rfl rfl ?_
      refine zz_icmp_lt (tgt := 27) C ddU_kindFor_22 rfl (fun hc => ?_) (fun hc => ?_)
      · replace h := iteT h hc
        refine zz_iinc (v := v2 + 1) (L1 := [(2, .int (v2 + 1)), (0, .ref v0), (1, .int v1)]) C 2 ddU_kindFor_27 rfl rfl N (by decide) rfl ?_
        refine zz_goto (tgt := 2) C ddU_kindFor_30 rfl ?_
        refine zz_loc (L1 := [(0, .ref v0), (1, .int v1), (2, .int (v2 + 1))]) [1, 2, 0] rfl ?_
        exact hK _ _ h
      · replace h := iteF h hc
        refine zz_iload_n C 2 ddU_kindFor_25 rfl rfl ?_
        exact zz_iret C (hr _ (Option.some.inj h).symm) ddU_kindFor_26
set_option maxHeartbeats 2000000 in
theorem zLU_kindFor_2 {G : GXM} {X : CxM} (hG : GokM G) (C : CoM G X cU_kindFor "HomeFreed$Rules") (N : mLM X = 3) {d : Nat} (hD : dpM X = d) (hd : 0 ≤ d) {v0 : Nat} {v1 : Int32} {q : (Int32 × Mem) ⊕ (Mem)} : ∀ (f : Nat) (v2 : Int32) (M : Mem), LU_kindFor_2 f v0 v1 v2 M = some q → (hr : ∀ r : Int32 × Mem, q = .inl r → EnM G X (some .int) (some (.int r.1)) r.2 0 0) → (hx0 : ∀ y : Mem, q = (.inr y) → ZM G X 33 [] [] y 0 0) → ZM G X 2 [(0, .ref v0), (1, .int v1), (2, .int v2)] [] M 0 0 := by
  intro f
  induction f with
  | zero => intro v2 M h; cases h
  | succ f ih =>
    intro v2 M h hr hx0
    exact zBU_kindFor_2 hG C N hD hd (K := LU_kindFor_2 f) (q := q) (fun v2 M h => ih v2 M h hr hx0) hr hx0 h
set_option maxHeartbeats 2000000 in
theorem xU_kindFor {G : GXM} {l : Launch} (hG : GokM G) (d : Nat) (hd : 0 ≤ d) {v0 : Nat} {v1 : Int32} {M : Mem} {q : Int32 × Mem} (h : fU_kindFor v0 v1 M = some q) : ExM G l d 0 0 yU_kindFor cU_kindFor 3 (some .int) [.ref v0, .int v1] M (some (.int q.1)) q.2 := by
  refine ex_of hG (by decide +kernel) (Nat.le_of_ble_eq_true rfl) ?_
  intro X hl C E N hD hn
  show ZM G X 0 [(0, .ref v0), (1, .int v1)] [] M 0 0
  unfold fU_kindFor at h
  refine zz_iconst (v := 0) C ddU_kindFor_0 (by decide) ?_
  refine zz_istore_n (L1 := [(2, .int 0), (0, .ref v0), (1, .int v1)]) C ddU_kindFor_1 rfl N (by decide) rfl ?_
  refine zz_loc (L1 := [(0, .ref v0), (1, .int v1), (2, .int 0)]) [1, 2, 0] rfl ?_
  obtain ⟨q1, hq1, h⟩ := bindN h
  refine zLU_kindFor_2 hG C N hD hd 1000000 _ _ hq1 ?_ ?_
  · intro r2 eq1; subst eq1
    obtain rfl := Option.some.inj h
    exact E
  · intro y3 eq1; subst eq1
    exact zBU_kindFor_33 hG C N hD hd E h
theorem ddH_usedOf_0 : decode cH_usedOf 0 = .ok (.iload_n 1, 1) := by decide +kernel
theorem ddH_usedOf_1 : decode cH_usedOf 1 = .ok (.iconst 3, 1) := by decide +kernel
theorem ddH_usedOf_2 : decode cH_usedOf 2 = .ok (.imul, 1) := by decide +kernel
theorem ddH_usedOf_3 : decode cH_usedOf 3 = .ok (.istore_n 2, 1) := by decide +kernel
theorem ddH_usedOf_4 : decode cH_usedOf 4 = .ok (.aload_n 0, 1) := by decide +kernel
theorem ddH_usedOf_5 : decode cH_usedOf 5 = .ok (.getfield 18, 3) := by decide +kernel
theorem ddH_usedOf_8 : decode cH_usedOf 8 = .ok (.iload_n 1, 1) := by decide +kernel
theorem ddH_usedOf_9 : decode cH_usedOf 9 = .ok (.iaload, 1) := by decide +kernel
theorem ddH_usedOf_10 : decode cH_usedOf 10 = .ok (.aload_n 0, 1) := by decide +kernel
theorem ddH_usedOf_11 : decode cH_usedOf 11 = .ok (.getfield 30, 3) := by decide +kernel
theorem ddH_usedOf_14 : decode cH_usedOf 14 = .ok (.getfield 95, 3) := by decide +kernel
theorem ddH_usedOf_17 : decode cH_usedOf 17 = .ok (.iload_n 2, 1) := by decide +kernel
theorem ddH_usedOf_18 : decode cH_usedOf 18 = .ok (.iconst 0, 1) := by decide +kernel
theorem ddH_usedOf_19 : decode cH_usedOf 19 = .ok (.iadd, 1) := by decide +kernel
theorem ddH_usedOf_20 : decode cH_usedOf 20 = .ok (.iaload, 1) := by decide +kernel
theorem ddH_usedOf_21 : decode cH_usedOf 21 = .ok (.isub, 1) := by decide +kernel
theorem ddH_usedOf_22 : decode cH_usedOf 22 = .ok (.aload_n 0, 1) := by decide +kernel
theorem ddH_usedOf_23 : decode cH_usedOf 23 = .ok (.getfield 30, 3) := by decide +kernel
theorem ddH_usedOf_26 : decode cH_usedOf 26 = .ok (.getfield 95, 3) := by decide +kernel
theorem ddH_usedOf_29 : decode cH_usedOf 29 = .ok (.iload_n 2, 1) := by decide +kernel
theorem ddH_usedOf_30 : decode cH_usedOf 30 = .ok (.iconst 1, 1) := by decide +kernel
theorem ddH_usedOf_31 : decode cH_usedOf 31 = .ok (.iadd, 1) := by decide +kernel
theorem ddH_usedOf_32 : decode cH_usedOf 32 = .ok (.iaload, 1) := by decide +kernel
theorem ddH_usedOf_33 : decode cH_usedOf 33 = .ok (.isub, 1) := by decide +kernel
theorem ddH_usedOf_34 : decode cH_usedOf 34 = .ok (.aload_n 0, 1) := by decide +kernel
theorem ddH_usedOf_35 : decode cH_usedOf 35 = .ok (.getfield 30, 3) := by decide +kernel
theorem ddH_usedOf_38 : decode cH_usedOf 38 = .ok (.getfield 95, 3) := by decide +kernel
theorem ddH_usedOf_41 : decode cH_usedOf 41 = .ok (.iload_n 2, 1) := by decide +kernel
theorem ddH_usedOf_42 : decode cH_usedOf 42 = .ok (.iconst 2, 1) := by decide +kernel
theorem ddH_usedOf_43 : decode cH_usedOf 43 = .ok (.iadd, 1) := by decide +kernel
theorem ddH_usedOf_44 : decode cH_usedOf 44 = .ok (.iaload, 1) := by decide +kernel
theorem ddH_usedOf_45 : decode cH_usedOf 45 = .ok (.isub, 1) := by decide +kernel
theorem ddH_usedOf_46 : decode cH_usedOf 46 = .ok (.ireturn, 1) := by decide +kernel
set_option maxHeartbeats 2000000 in
theorem xH_usedOf {G : GXM} {l : Launch} (hG : GokM G) (d : Nat) (hd : 0 ≤ d) {v0 : Nat} {v1 : Int32} {M : Mem} {q : Int32 × Mem} (h : fH_usedOf v0 v1 M = some q) : ExM G l d 0 0 yH_usedOf cH_usedOf 3 (some .int) [.ref v0, .int v1] M (some (.int q.1)) q.2 := by
  refine ex_of hG (by decide +kernel) (Nat.le_of_ble_eq_true rfl) ?_
  intro X hl C E N hD hn
  show ZM G X 0 [(0, .ref v0), (1, .int v1)] [] M 0 0
  unfold fH_usedOf at h
  refine zz_iload_n C 1 ddH_usedOf_0 rfl rfl ?_
  refine zz_iconst (v := 3) C ddH_usedOf_1 (by decide) ?_
  refine zz_imul C ddH_usedOf_2 ?_
  refine zz_istore_n (L1 := [(2, .int (v1 * 3)), (0, .ref v0), (1, .int v1)]) C ddH_usedOf_3 rfl N (by decide) rfl ?_
  refine zz_aload_n C 1 ddH_usedOf_4 rfl rfl ?_
  obtain ⟨h1, h⟩ := gdN h
  obtain ⟨h2, h⟩ := gdN h
  refine zz_getr C ddH_usedOf_5 fl_H_18 rfl h1 (of_decide_eq_true h2) ?_
  refine zz_iload_n C 2 ddH_usedOf_8 rfl rfl ?_
  obtain ⟨h3, h⟩ := gdN h
  refine zz_iaload C ddH_usedOf_9 h3 ?_
  refine zz_aload_n C 1 ddH_usedOf_10 rfl rfl ?_
  obtain ⟨h4, h⟩ := gdN h
  refine zz_getr C ddH_usedOf_11 fl_H_30 rfl h1 (of_decide_eq_true h4) ?_
  obtain ⟨h5, h⟩ := gdN h
  obtain ⟨h6, h⟩ := gdN h
  refine zz_getr C ddH_usedOf_14 fl_H_95 rfl h5 (of_decide_eq_true h6) ?_
  refine zz_iload_n C 0 ddH_usedOf_17 rfl rfl ?_
  refine zz_iconst (v := 0) C ddH_usedOf_18 (by decide) ?_
  refine zz_iadd C ddH_usedOf_19 ?_
  obtain ⟨h7, h⟩ := gdN h
  refine zz_iaload C ddH_usedOf_20 h7 ?_
  refine zz_isub C ddH_usedOf_21 ?_
  refine zz_aload_n C 1 ddH_usedOf_22 rfl rfl ?_
  refine zz_getr C ddH_usedOf_23 fl_H_30 rfl h1 (of_decide_eq_true h4) ?_
  refine zz_getr C ddH_usedOf_26 fl_H_95 rfl h5 (of_decide_eq_true h6) ?_
  refine zz_iload_n C 0 ddH_usedOf_29 rfl rfl ?_
  refine zz_iconst (v := 1) C ddH_usedOf_30 (by decide) ?_
  refine zz_iadd C ddH_usedOf_31 ?_
  obtain ⟨h8, h⟩ := gdN h
  refine zz_iaload C ddH_usedOf_32 h8 ?_
  refine zz_isub C ddH_usedOf_33 ?_
  refine zz_aload_n C 1 ddH_usedOf_34 rfl rfl ?_
  refine zz_getr C ddH_usedOf_35 fl_H_30 rfl h1 (of_decide_eq_true h4) ?_
  refine zz_getr C ddH_usedOf_38 fl_H_95 rfl h5 (of_decide_eq_true h6) ?_
  refine zz_iload_n C 0 ddH_usedOf_41 rfl rfl ?_
  refine zz_iconst (v := 2) C ddH_usedOf_42 (by decide) ?_
  refine zz_iadd C ddH_usedOf_43 ?_
  obtain ⟨h9, h⟩ := gdN h
  refine zz_iaload C ddH_usedOf_44 h9 ?_
  refine zz_isub C ddH_usedOf_45 ?_
  obtain rfl := Option.some.inj h
  exact zz_iret C E ddH_usedOf_46
