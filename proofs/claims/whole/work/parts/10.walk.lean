theorem ddT_signsIn_0 : decode cT_signsIn 0 = .ok (.iconst 0, 1) := by decide +kernel
theorem ddT_signsIn_1 : decode cT_signsIn 1 = .ok (.istore_n 2, 1) := by decide +kernel
theorem ddT_signsIn_2 : decode cT_signsIn 2 = .ok (.bipush 24, 2) := by decide +kernel
theorem ddT_signsIn_4 : decode cT_signsIn 4 = .ok (.istore_n 3, 1) := by decide +kernel
theorem ddT_signsIn_5 : decode cT_signsIn 5 = .ok (.iload_n 3, 1) := by decide +kernel
theorem ddT_signsIn_6 : decode cT_signsIn 6 = .ok (.ifCond .lt 27, 3) := by decide +kernel
theorem ddT_signsIn_9 : decode cT_signsIn 9 = .ok (.iload_n 2, 1) := by decide +kernel
theorem ddT_signsIn_10 : decode cT_signsIn 10 = .ok (.iload_n 1, 1) := by decide +kernel
theorem ddT_signsIn_11 : decode cT_signsIn 11 = .ok (.iload_n 3, 1) := by decide +kernel
theorem ddT_signsIn_12 : decode cT_signsIn 12 = .ok (.iushr, 1) := by decide +kernel
theorem ddT_signsIn_13 : decode cT_signsIn 13 = .ok (.sipush 255, 3) := by decide +kernel
theorem ddT_signsIn_16 : decode cT_signsIn 16 = .ok (.iand, 1) := by decide +kernel
theorem ddT_signsIn_17 : decode cT_signsIn 17 = .ok (.ifCond .eq 7, 3) := by decide +kernel
theorem ddT_signsIn_20 : decode cT_signsIn 20 = .ok (.iconst 1, 1) := by decide +kernel
theorem ddT_signsIn_21 : decode cT_signsIn 21 = .ok (.goto 4, 3) := by decide +kernel
theorem ddT_signsIn_24 : decode cT_signsIn 24 = .ok (.iconst 0, 1) := by decide +kernel
theorem ddT_signsIn_25 : decode cT_signsIn 25 = .ok (.iadd, 1) := by decide +kernel
theorem ddT_signsIn_26 : decode cT_signsIn 26 = .ok (.istore_n 2, 1) := by decide +kernel
theorem ddT_signsIn_27 : decode cT_signsIn 27 = .ok (.iinc 3 (-8), 3) := by decide +kernel
theorem ddT_signsIn_30 : decode cT_signsIn 30 = .ok (.goto (-25), 3) := by decide +kernel
theorem ddT_signsIn_33 : decode cT_signsIn 33 = .ok (.iload_n 2, 1) := by decide +kernel
theorem ddT_signsIn_34 : decode cT_signsIn 34 = .ok (.ireturn, 1) := by decide +kernel
set_option maxHeartbeats 2000000 in
theorem zBT_signsIn_25 {G : GXM} {X : CxM} (hG : GokM G) (C : CoM G X cT_signsIn "HomeFreed$Tape") (N : mLM X = 4) {d : Nat} (hD : dpM X = d) (hd : 0 ≤ d) {v1 : Int32} {K : Int32 → Int32 → Int32 → Mem → Option ((Int32 × Mem))} {q : (Int32 × Mem)} (hK : ∀ (v2 : Int32) (v3 : Int32) (M : Mem), K v1 v2 v3 M = some q → ZM G X 5 [(1, .int v1), (2, .int v2), (3, .int v3)] [] M 0 0) (hr : ∀ r : Int32 × Mem, q =  r → EnM G X (some .int) (some (.int r.1)) r.2 0 0) {v3 : Int32} {w0 : Int32} {w1 : Int32} {M : Mem} (h : BT_signsIn_25 K v1 v3 w0 w1 M = some q) : ZM G X 25 [(1, .int v1), (3, .int v3)] [.int w1, .int w0] M 0 0 := by
  unfold BT_signsIn_25 at h
  refine zz_iadd C ddT_signsIn_25 ?_
  refine zz_istore_n (L1 := [(2, .int (w0 + w1)), (1, .int v1), (3, .int v3)]) C ddT_signsIn_26 rfl N (by decide) rfl ?_
  refine zz_iinc (v := v3 + (-8)) (L1 := [(3, .int (v3 + (-8))), (2, .int (w0 + w1)), (1, .int v1)]) C 2 ddT_signsIn_27 rfl rfl N (by decide) rfl ?_
  refine zz_goto (tgt := 5) C ddT_signsIn_30 rfl ?_
  refine zz_loc (L1 := [(1, .int v1), (2, .int (w0 + w1)), (3, .int (v3 + (-8)))]) [2, 1, 0] rfl ?_
  exact hK _ _ _ h
set_option maxHeartbeats 2000000 in
theorem zBT_signsIn_5 {G : GXM} {X : CxM} (hG : GokM G) (C : CoM G X cT_signsIn "HomeFreed$Tape") (N : mLM X = 4) {d : Nat} (hD : dpM X = d) (hd : 0 ≤ d) {v1 : Int32} {K : Int32 → Int32 → Int32 → Mem → Option ((Int32 × Mem))} {q : (Int32 × Mem)} (hK : ∀ (v2 : Int32) (v3 : Int32) (M : Mem), K v1 v2 v3 M = some q → ZM G X 5 [(1, .int v1), (2, .int v2), (3, .int v3)] [] M 0 0) (hr : ∀ r : Int32 × Mem, q =  r → EnM G X (some .int) (some (.int r.1)) r.2 0 0) {v2 : Int32} {v3 : Int32} {M : Mem} (h : BT_signsIn_5 K v1 v2 v3 M = some q) : ZM G X 5 [(1, .int v1), (2, .int v2), (3, .int v3)] [] M 0 0 := by
  unfold BT_signsIn_5 at h
  refine zz_iload_n C 2 ddT_signsIn_5 rfl rfl ?_
  refine zz_if_lt (tgt := 33) C ddT_signsIn_6 rfl (fun hc => ?_) (fun hc => ?_)
  · replace h := iteT h hc
    refine zz_iload_n C 1 ddT_signsIn_33 rfl rfl ?_
    exact zz_iret C (hr _ (Option.some.inj h).symm) ddT_signsIn_34
  · replace h := iteF h hc
    refine zz_iload_n C 1 ddT_signsIn_9 rfl rfl ?_
    refine zz_iload_n C 0 ddT_signsIn_10 rfl rfl ?_
    refine zz_iload_n C 2 ddT_signsIn_11 rfl rfl ?_
    refine zz_iushr C ddT_signsIn_12 ?_
    refine zz_sipush (v := 255) C ddT_signsIn_13 (by decide) ?_
    refine zz_iand C ddT_signsIn_16 ?_
    refine zz_if_eq (tgt := 24) C ddT_signsIn_17 rfl (fun hc => ?_) (fun hc => ?_)
    · replace h := iteT h hc
      refine zz_iconst (v := 0) C ddT_signsIn_24 (by decide) ?_
      refine zz_loc (L1 := [(1, .int v1), (3, .int v3)]) [0, 2] rfl ?_
      exact zBT_signsIn_25 hG C N hD hd hK hr h
    · replace h := iteF h hc
      refine zz_iconst (v := 1) C ddT_signsIn_20 (by decide) ?_
      refine zz_goto (tgt := 25) C ddT_signsIn_21 rfl ?_
      refine zz_loc (L1 := [(1, .int v1), (3, .int v3)]) [0, 2] rfl ?_
      exact zBT_signsIn_25 hG C N hD hd hK hr h
set_option maxHeartbeats 2000000 in
theorem zLT_signsIn_5 {G : GXM} {X : CxM} (hG : GokM G) (C : CoM G X cT_signsIn "HomeFreed$Tape") (N : mLM X = 4) {d : Nat} (hD : dpM X = d) (hd : 0 ≤ d) {v1 : Int32} {q : (Int32 × Mem)} : ∀ (f : Nat) (v2 : Int32) (v3 : Int32) (M : Mem), LT_signsIn_5 f v1 v2 v3 M = some q → (hr : ∀ r : Int32 × Mem, q =  r → EnM G X (some .int) (some (.int r.1)) r.2 0 0) → ZM G X 5 [(1, .int v1), (2, .int v2), (3, .int v3)] [] M 0 0 := by
  intro f
  induction f with
  | zero => intro v2 v3 M h; cases h
  | succ f ih =>
    intro v2 v3 M h hr
    exact zBT_signsIn_5 hG C N hD hd (K := LT_signsIn_5 f) (q := q) (fun v2 v3 M h => ih v2 v3 M h hr) hr h
set_option maxHeartbeats 2000000 in
theorem xT_signsIn {G : GXM} {l : Launch} (hG : GokM G) (d : Nat) (hd : 0 ≤ d) {v0 : Nat} {v1 : Int32} {M : Mem} {q : Int32 × Mem} (h : fT_signsIn v0 v1 M = some q) : ExM G l d 0 0 yT_signsIn cT_signsIn 4 (some .int) [.ref v0, .int v1] M (some (.int q.1)) q.2 := by
  refine ex_of hG (by decide +kernel) (Nat.le_of_ble_eq_true rfl) ?_
  intro X hl C E N hD hn
  show ZM G X 0 [(0, .ref v0), (1, .int v1)] [] M 0 0
  unfold fT_signsIn at h
  refine zz_iconst (v := 0) C ddT_signsIn_0 (by decide) ?_
  refine zz_istore_n (L1 := [(2, .int 0), (0, .ref v0), (1, .int v1)]) C ddT_signsIn_1 rfl N (by decide) rfl ?_
  refine zz_bipush (v := 24) C ddT_signsIn_2 (by decide) ?_
  refine zz_istore_n (L1 := [(3, .int 24), (2, .int 0), (0, .ref v0), (1, .int v1)]) C ddT_signsIn_4 rfl N (by decide) rfl ?_
  refine zz_loc (L1 := [(1, .int v1), (2, .int 0), (3, .int 24)]) [3, 1, 0] rfl ?_
  obtain ⟨q1, hq1, h⟩ := bindN h
  refine zLT_signsIn_5 hG C N hD hd 1000000 _ _ _ hq1 ?_
  · intro r2 eq1; replace eq1 := eq1.symm; subst eq1
    obtain rfl := Option.some.inj h
    exact E
theorem ddT_append_0 : decode cT_append 0 = .ok (.bipush 24, 2) := by decide +kernel
theorem ddT_append_2 : decode cT_append 2 = .ok (.istore_n 2, 1) := by decide +kernel
theorem ddT_append_3 : decode cT_append 3 = .ok (.iload_n 2, 1) := by decide +kernel
theorem ddT_append_4 : decode cT_append 4 = .ok (.ifCond .lt 53, 3) := by decide +kernel
theorem ddT_append_7 : decode cT_append 7 = .ok (.iload_n 1, 1) := by decide +kernel
theorem ddT_append_8 : decode cT_append 8 = .ok (.iload_n 2, 1) := by decide +kernel
theorem ddT_append_9 : decode cT_append 9 = .ok (.iushr, 1) := by decide +kernel
theorem ddT_append_10 : decode cT_append 10 = .ok (.sipush 255, 3) := by decide +kernel
theorem ddT_append_13 : decode cT_append 13 = .ok (.iand, 1) := by decide +kernel
theorem ddT_append_14 : decode cT_append 14 = .ok (.istore_n 3, 1) := by decide +kernel
theorem ddT_append_15 : decode cT_append 15 = .ok (.iload_n 3, 1) := by decide +kernel
theorem ddT_append_16 : decode cT_append 16 = .ok (.ifCond .eq 35, 3) := by decide +kernel
theorem ddT_append_19 : decode cT_append 19 = .ok (.aload_n 0, 1) := by decide +kernel
theorem ddT_append_20 : decode cT_append 20 = .ok (.getfield 15, 3) := by decide +kernel
theorem ddT_append_23 : decode cT_append 23 = .ok (.aload_n 0, 1) := by decide +kernel
theorem ddT_append_24 : decode cT_append 24 = .ok (.getfield 9, 3) := by decide +kernel
theorem ddT_append_27 : decode cT_append 27 = .ok (.arraylength, 1) := by decide +kernel
theorem ddT_append_28 : decode cT_append 28 = .ok (.if_icmp .ge 23, 3) := by decide +kernel
theorem ddT_append_31 : decode cT_append 31 = .ok (.aload_n 0, 1) := by decide +kernel
theorem ddT_append_32 : decode cT_append 32 = .ok (.getfield 9, 3) := by decide +kernel
theorem ddT_append_35 : decode cT_append 35 = .ok (.aload_n 0, 1) := by decide +kernel
theorem ddT_append_36 : decode cT_append 36 = .ok (.getfield 15, 3) := by decide +kernel
theorem ddT_append_39 : decode cT_append 39 = .ok (.iload_n 3, 1) := by decide +kernel
theorem ddT_append_40 : decode cT_append 40 = .ok (.iastore, 1) := by decide +kernel
theorem ddT_append_41 : decode cT_append 41 = .ok (.aload_n 0, 1) := by decide +kernel
theorem ddT_append_42 : decode cT_append 42 = .ok (.dup, 1) := by decide +kernel
theorem ddT_append_43 : decode cT_append 43 = .ok (.getfield 15, 3) := by decide +kernel
theorem ddT_append_46 : decode cT_append 46 = .ok (.iconst 1, 1) := by decide +kernel
theorem ddT_append_47 : decode cT_append 47 = .ok (.iadd, 1) := by decide +kernel
theorem ddT_append_48 : decode cT_append 48 = .ok (.putfield 15, 3) := by decide +kernel
theorem ddT_append_51 : decode cT_append 51 = .ok (.iinc 2 (-8), 3) := by decide +kernel
theorem ddT_append_54 : decode cT_append 54 = .ok (.goto (-51), 3) := by decide +kernel
theorem ddT_append_57 : decode cT_append 57 = .ok (.return_, 1) := by decide +kernel
set_option maxHeartbeats 2000000 in
theorem zBT_append_51 {G : GXM} {X : CxM} (hG : GokM G) (C : CoM G X cT_append "HomeFreed$Tape") (N : mLM X = 4) {d : Nat} (hD : dpM X = d) (hd : 0 ≤ d) {v0 : Nat} {v1 : Int32} {K : Nat → Int32 → Int32 → Mem → Option ((Mem))} {q : (Mem)} (hK : ∀ (v2 : Int32) (M : Mem), K v0 v1 v2 M = some q → ZM G X 3 [(0, .ref v0), (1, .int v1), (2, .int v2)] [] M 0 0) (hr : ∀ r : Mem, q =  r → EnM G X none none r 0 0) {v2 : Int32} {M : Mem} (h : BT_append_51 K v0 v1 v2 M = some q) : ZM G X 51 [(0, .ref v0), (1, .int v1), (2, .int v2)] [] M 0 0 := by
  unfold BT_append_51 at h
  refine zz_iinc (v := v2 + (-8)) (L1 := [(2, .int (v2 + (-8))), (0, .ref v0), (1, .int v1)]) C 2 ddT_append_51 rfl rfl N (by decide) rfl ?_
  refine zz_goto (tgt := 3) C ddT_append_54 rfl ?_
  refine zz_loc (L1 := [(0, .ref v0), (1, .int v1), (2, .int (v2 + (-8)))]) [1, 2, 0] rfl ?_
  exact hK _ _ h
set_option maxHeartbeats 2000000 in
theorem zBT_append_3 {G : GXM} {X : CxM} (hG : GokM G) (C : CoM G X cT_append "HomeFreed$Tape") (N : mLM X = 4) {d : Nat} (hD : dpM X = d) (hd : 0 ≤ d) {v0 : Nat} {v1 : Int32} {K : Nat → Int32 → Int32 → Mem → Option ((Mem))} {q : (Mem)} (hK : ∀ (v2 : Int32) (M : Mem), K v0 v1 v2 M = some q → ZM G X 3 [(0, .ref v0), (1, .int v1), (2, .int v2)] [] M 0 0) (hr : ∀ r : Mem, q =  r → EnM G X none none r 0 0) {v2 : Int32} {M : Mem} (h : BT_append_3 K v0 v1 v2 M = some q) : ZM G X 3 [(0, .ref v0), (1, .int v1), (2, .int v2)] [] M 0 0 := by
  unfold BT_append_3 at h
  refine zz_iload_n C 2 ddT_append_3 rfl rfl ?_
  refine zz_if_lt (tgt := 57) C ddT_append_4 rfl (fun hc => ?_) (fun hc => ?_)
  · replace h := iteT h hc
    exact zz_vret C (hr _ (Option.some.inj h).symm) ddT_append_57
  · replace h := iteF h hc
    refine zz_iload_n C 1 ddT_append_7 rfl rfl ?_
    refine zz_iload_n C 2 ddT_append_8 rfl rfl ?_
    refine zz_iushr C ddT_append_9 ?_
    refine zz_sipush (v := 255) C ddT_append_10 (by decide) ?_
    refine zz_iand C ddT_append_13 ?_
    refine zz_istore_n (L1 := [(3, .int (((Int32.toUInt32 v1 >>> (Int32.toUInt32 v2 &&& Int32.toUInt32 31)).toInt32) &&& 255)), (0, .ref v0), (1, .int v1), (2, .int v2)]) C ddT_append_14 rfl N (by decide) rfl ?_
    refine zz_iload_n C 0 ddT_append_15 rfl rfl ?_
    refine zz_if_eq (tgt := 51) C ddT_append_16 rfl (fun hc => ?_) (fun hc => ?_)
    · replace h := iteT h hc
      refine zz_loc (L1 := [(0, .ref v0), (1, .int v1), (2, .int v2)]) [1, 2, 3] rfl ?_
      exact zBT_append_51 hG C N hD hd hK hr h
    · replace h := iteF h hc
      refine zz_aload_n C 1 ddT_append_19 rfl rfl ?_
      obtain ⟨h1, h⟩ := gdN h
      refine zz_geti C ddT_append_20 fl_T_15 rfl h1 ?_
      refine zz_aload_n C 1 ddT_append_23 rfl rfl ?_
      obtain ⟨h2, h⟩ := gdN h
      refine zz_getr C ddT_append_24 fl_T_9 rfl h1 (of_decide_eq_true h2) ?_
      obtain ⟨h3, h⟩ := gdN h
      refine zz_alenI C ddT_append_27 h3 ?_
      refine zz_icmp_ge (tgt := 51) C ddT_append_28 rfl (fun hc => ?_) (fun hc => ?_)
      · replace h := iteT h hc
        refine zz_loc (L1 := [(0, .ref v0), (1, .int v1), (2, .int v2)]) [1, 2, 3] rfl ?_
        exact zBT_append_51 hG C N hD hd hK hr h
      · replace h := iteF h hc
        refine zz_aload_n C 1 ddT_append_31 rfl rfl ?_
        refine zz_getr C ddT_append_32 fl_T_9 rfl h1 (of_decide_eq_true h2) ?_
        refine zz_aload_n C 1 ddT_append_35 rfl rfl ?_
        refine zz_geti C ddT_append_36 fl_T_15 rfl h1 ?_
        refine zz_iload_n C 0 ddT_append_39 rfl rfl ?_
        obtain ⟨h4, h⟩ := gdN h
        refine zz_iastore C ddT_append_40 h4 ?_
        refine zz_aload_n C 1 ddT_append_41 rfl rfl ?_
        refine zz_dup C ddT_append_42 rfl ?_
        refine zz_geti C ddT_append_43 fl_T_15 rfl h1 ?_
        refine zz_iconst (v := 1) C ddT_append_46 (by decide) ?_
        refine zz_iadd C ddT_append_47 ?_
        refine zz_puti C ddT_append_48 fl_T_15 rfl rfl rfl h1 ?_
        refine zz_loc (L1 := [(0, .ref v0), (1, .int v1), (2, .int v2)]) [1, 2, 3] rfl ?_
        exact zBT_append_51 hG C N hD hd hK hr h
set_option maxHeartbeats 2000000 in
theorem zLT_append_3 {G : GXM} {X : CxM} (hG : GokM G) (C : CoM G X cT_append "HomeFreed$Tape") (N : mLM X = 4) {d : Nat} (hD : dpM X = d) (hd : 0 ≤ d) {v0 : Nat} {v1 : Int32} {q : (Mem)} : ∀ (f : Nat) (v2 : Int32) (M : Mem), LT_append_3 f v0 v1 v2 M = some q → (hr : ∀ r : Mem, q =  r → EnM G X none none r 0 0) → ZM G X 3 [(0, .ref v0), (1, .int v1), (2, .int v2)] [] M 0 0 := by
  intro f
  induction f with
  | zero => intro v2 M h; cases h
  | succ f ih =>
    intro v2 M h hr
    exact zBT_append_3 hG C N hD hd (K := LT_append_3 f) (q := q) (fun v2 M h => ih v2 M h hr) hr h
set_option maxHeartbeats 2000000 in
theorem xT_append {G : GXM} {l : Launch} (hG : GokM G) (d : Nat) (hd : 0 ≤ d) {v0 : Nat} {v1 : Int32} {M : Mem} {q : Mem} (h : fT_append v0 v1 M = some q) : ExM G l d 0 0 yT_append cT_append 4 none [.ref v0, .int v1] M none q := by
  refine ex_of hG (by decide +kernel) (Nat.le_of_ble_eq_true rfl) ?_
  intro X hl C E N hD hn
  show ZM G X 0 [(0, .ref v0), (1, .int v1)] [] M 0 0
  unfold fT_append at h
  refine zz_bipush (v := 24) C ddT_append_0 (by decide) ?_
  refine zz_istore_n (L1 := [(2, .int 24), (0, .ref v0), (1, .int v1)]) C ddT_append_2 rfl N (by decide) rfl ?_
  refine zz_loc (L1 := [(0, .ref v0), (1, .int v1), (2, .int 24)]) [1, 2, 0] rfl ?_
  obtain ⟨q1, hq1, h⟩ := bindN h
  refine zLT_append_3 hG C N hD hd 1000000 _ _ hq1 ?_
  · intro r2 eq1; replace eq1 := eq1.symm; subst eq1
    obtain rfl := Option.some.inj h
    exact E
theorem ddA_feed_0 : decode cA_feed 0 = .ok (.aload_n 0, 1) := by decide +kernel
theorem ddA_feed_1 : decode cA_feed 1 = .ok (.getfield 12, 3) := by decide +kernel
theorem ddA_feed_4 : decode cA_feed 4 = .ok (.iload_n 1, 1) := by decide +kernel
theorem ddA_feed_5 : decode cA_feed 5 = .ok (.invokevirtual 94, 3) := by decide +kernel
theorem ddA_feed_8 : decode cA_feed 8 = .ok (.aload_n 0, 1) := by decide +kernel
theorem ddA_feed_9 : decode cA_feed 9 = .ok (.getfield 12, 3) := by decide +kernel
theorem ddA_feed_12 : decode cA_feed 12 = .ok (.iload_n 2, 1) := by decide +kernel
theorem ddA_feed_13 : decode cA_feed 13 = .ok (.invokevirtual 94, 3) := by decide +kernel
theorem ddA_feed_16 : decode cA_feed 16 = .ok (.iadd, 1) := by decide +kernel
theorem ddA_feed_17 : decode cA_feed 17 = .ok (.aload_n 0, 1) := by decide +kernel
theorem ddA_feed_18 : decode cA_feed 18 = .ok (.getfield 12, 3) := by decide +kernel
theorem ddA_feed_21 : decode cA_feed 21 = .ok (.iload_n 3, 1) := by decide +kernel
theorem ddA_feed_22 : decode cA_feed 22 = .ok (.invokevirtual 94, 3) := by decide +kernel
theorem ddA_feed_25 : decode cA_feed 25 = .ok (.iadd, 1) := by decide +kernel
theorem ddA_feed_26 : decode cA_feed 26 = .ok (.aload_n 0, 1) := by decide +kernel
theorem ddA_feed_27 : decode cA_feed 27 = .ok (.getfield 12, 3) := by decide +kernel
theorem ddA_feed_30 : decode cA_feed 30 = .ok (.iload 4, 2) := by decide +kernel
theorem ddA_feed_32 : decode cA_feed 32 = .ok (.invokevirtual 94, 3) := by decide +kernel
theorem ddA_feed_35 : decode cA_feed 35 = .ok (.iadd, 1) := by decide +kernel
theorem ddA_feed_36 : decode cA_feed 36 = .ok (.aload_n 0, 1) := by decide +kernel
theorem ddA_feed_37 : decode cA_feed 37 = .ok (.getfield 12, 3) := by decide +kernel
theorem ddA_feed_40 : decode cA_feed 40 = .ok (.iload 5, 2) := by decide +kernel
theorem ddA_feed_42 : decode cA_feed 42 = .ok (.invokevirtual 94, 3) := by decide +kernel
theorem ddA_feed_45 : decode cA_feed 45 = .ok (.iadd, 1) := by decide +kernel
theorem ddA_feed_46 : decode cA_feed 46 = .ok (.istore 6, 2) := by decide +kernel
theorem ddA_feed_48 : decode cA_feed 48 = .ok (.aload_n 0, 1) := by decide +kernel
theorem ddA_feed_49 : decode cA_feed 49 = .ok (.getfield 12, 3) := by decide +kernel
theorem ddA_feed_52 : decode cA_feed 52 = .ok (.getfield 98, 3) := by decide +kernel
theorem ddA_feed_55 : decode cA_feed 55 = .ok (.iload 6, 2) := by decide +kernel
theorem ddA_feed_57 : decode cA_feed 57 = .ok (.iadd, 1) := by decide +kernel
theorem ddA_feed_58 : decode cA_feed 58 = .ok (.sipush 240, 3) := by decide +kernel
theorem ddA_feed_61 : decode cA_feed 61 = .ok (.if_icmp .le 5, 3) := by decide +kernel
theorem ddA_feed_64 : decode cA_feed 64 = .ok (.iconst (-1), 1) := by decide +kernel
theorem ddA_feed_65 : decode cA_feed 65 = .ok (.ireturn, 1) := by decide +kernel
theorem ddA_feed_66 : decode cA_feed 66 = .ok (.aload_n 0, 1) := by decide +kernel
theorem ddA_feed_67 : decode cA_feed 67 = .ok (.getfield 12, 3) := by decide +kernel
theorem ddA_feed_70 : decode cA_feed 70 = .ok (.iload_n 1, 1) := by decide +kernel
theorem ddA_feed_71 : decode cA_feed 71 = .ok (.invokevirtual 101, 3) := by decide +kernel
theorem ddA_feed_74 : decode cA_feed 74 = .ok (.aload_n 0, 1) := by decide +kernel
theorem ddA_feed_75 : decode cA_feed 75 = .ok (.getfield 12, 3) := by decide +kernel
theorem ddA_feed_78 : decode cA_feed 78 = .ok (.iload_n 2, 1) := by decide +kernel
theorem ddA_feed_79 : decode cA_feed 79 = .ok (.invokevirtual 101, 3) := by decide +kernel
theorem ddA_feed_82 : decode cA_feed 82 = .ok (.aload_n 0, 1) := by decide +kernel
theorem ddA_feed_83 : decode cA_feed 83 = .ok (.getfield 12, 3) := by decide +kernel
theorem ddA_feed_86 : decode cA_feed 86 = .ok (.iload_n 3, 1) := by decide +kernel
theorem ddA_feed_87 : decode cA_feed 87 = .ok (.invokevirtual 101, 3) := by decide +kernel
theorem ddA_feed_90 : decode cA_feed 90 = .ok (.aload_n 0, 1) := by decide +kernel
theorem ddA_feed_91 : decode cA_feed 91 = .ok (.getfield 12, 3) := by decide +kernel
theorem ddA_feed_94 : decode cA_feed 94 = .ok (.iload 4, 2) := by decide +kernel
theorem ddA_feed_96 : decode cA_feed 96 = .ok (.invokevirtual 101, 3) := by decide +kernel
theorem ddA_feed_99 : decode cA_feed 99 = .ok (.aload_n 0, 1) := by decide +kernel
theorem ddA_feed_100 : decode cA_feed 100 = .ok (.getfield 12, 3) := by decide +kernel
theorem ddA_feed_103 : decode cA_feed 103 = .ok (.iload 5, 2) := by decide +kernel
theorem ddA_feed_105 : decode cA_feed 105 = .ok (.invokevirtual 101, 3) := by decide +kernel
theorem ddA_feed_108 : decode cA_feed 108 = .ok (.aload_n 0, 1) := by decide +kernel
theorem ddA_feed_109 : decode cA_feed 109 = .ok (.getfield 12, 3) := by decide +kernel
theorem ddA_feed_112 : decode cA_feed 112 = .ok (.getfield 98, 3) := by decide +kernel
theorem ddA_feed_115 : decode cA_feed 115 = .ok (.ireturn, 1) := by decide +kernel
set_option maxHeartbeats 2000000 in
theorem xA_feed {G : GXM} {l : Launch} (hG : GokM G) (d : Nat) (hd : 1 ≤ d) {v0 : Nat} {v1 : Int32} {v2 : Int32} {v3 : Int32} {v4 : Int32} {v5 : Int32} {M : Mem} {q : Int32 × Mem} (h : fA_feed v0 v1 v2 v3 v4 v5 M = some q) : ExM G l d 0 0 yA_feed cA_feed 7 (some .int) [.ref v0, .int v1, .int v2, .int v3, .int v4, .int v5] M (some (.int q.1)) q.2 := by
  refine ex_of hG (by decide +kernel) (Nat.le_of_ble_eq_true rfl) ?_
  intro X hl C E N hD hn
  show ZM G X 0 [(0, .ref v0), (1, .int v1), (2, .int v2), (3, .int v3), (4, .int v4), (5, .int v5)] [] M 0 0
  unfold fA_feed at h
  refine zz_aload_n C 0 ddA_feed_0 rfl rfl ?_
  obtain ⟨h1, h⟩ := gdN h
  obtain ⟨h2, h⟩ := gdN h
  refine zz_getr C ddA_feed_1 fl_A_12 rfl h1 (of_decide_eq_true h2) ?_
  refine zz_iload_n C 1 ddA_feed_4 rfl rfl ?_
  obtain ⟨h4, h⟩ := gdN h
  obtain ⟨q3, hq3, h⟩ := bindN h
  refine zz_callV0 (As := [.int v1]) C ddA_feed_5 wd_338 my_T_signsIn mv_T_signsIn ⟨_, rfl, rfl⟩ (xT_signsIn hG (d - 1) (by omega) hq3) (by omega) h4 rfl rfl (Nat.le_of_ble_eq_true rfl) ?_
  refine zz_aload_n C 0 ddA_feed_8 rfl rfl ?_
  obtain ⟨h5, h⟩ := gdN h
  obtain ⟨h6, h⟩ := gdN h
  refine zz_getr C ddA_feed_9 fl_A_12 rfl h5 (of_decide_eq_true h6) ?_
  refine zz_iload_n C 2 ddA_feed_12 rfl rfl ?_
  obtain ⟨h8, h⟩ := gdN h
  obtain ⟨q7, hq7, h⟩ := bindN h
  refine zz_callV0 (As := [.int v2]) C ddA_feed_13 wd_338 my_T_signsIn mv_T_signsIn ⟨_, rfl, rfl⟩ (xT_signsIn hG (d - 1) (by omega) hq7) (by omega) h8 rfl rfl (Nat.le_of_ble_eq_true rfl) ?_
  refine zz_iadd C ddA_feed_16 ?_
  refine zz_aload_n C 0 ddA_feed_17 rfl rfl ?_
  obtain ⟨h9, h⟩ := gdN h
  obtain ⟨h10, h⟩ := gdN h
  refine zz_getr C ddA_feed_18 fl_A_12 rfl h9 (of_decide_eq_true h10) ?_
  refine zz_iload_n C 3 ddA_feed_21 rfl rfl ?_
  obtain ⟨h12, h⟩ := gdN h
  obtain ⟨q11, hq11, h⟩ := bindN h
  refine zz_callV0 (As := [.int v3]) C ddA_feed_22 wd_338 my_T_signsIn mv_T_signsIn ⟨_, rfl, rfl⟩ (xT_signsIn hG (d - 1) (by omega) hq11) (by omega) h12 rfl rfl (Nat.le_of_ble_eq_true rfl) ?_
  refine zz_iadd C ddA_feed_25 ?_
  refine zz_aload_n C 0 ddA_feed_26 rfl rfl ?_
  obtain ⟨h13, h⟩ := gdN h
  obtain ⟨h14, h⟩ := gdN h
  refine zz_getr C ddA_feed_27 fl_A_12 rfl h13 (of_decide_eq_true h14) ?_
  refine zz_iload C 4 ddA_feed_30 rfl ?_
  obtain ⟨h16, h⟩ := gdN h
  obtain ⟨q15, hq15, h⟩ := bindN h
  refine zz_callV0 (As := [.int v4]) C ddA_feed_32 wd_338 my_T_signsIn mv_T_signsIn ⟨_, rfl, rfl⟩ (xT_signsIn hG (d - 1) (by omega) hq15) (by omega) h16 rfl rfl (Nat.le_of_ble_eq_true rfl) ?_
  refine zz_iadd C ddA_feed_35 ?_
  refine zz_aload_n C 0 ddA_feed_36 rfl rfl ?_
  obtain ⟨h17, h⟩ := gdN h
  obtain ⟨h18, h⟩ := gdN h
  refine zz_getr C ddA_feed_37 fl_A_12 rfl h17 (of_decide_eq_true h18) ?_
  refine zz_iload C 5 ddA_feed_40 rfl ?_
  obtain ⟨h20, h⟩ := gdN h
  obtain ⟨q19, hq19, h⟩ := bindN h
  refine zz_callV0 (As := [.int v5]) C ddA_feed_42 wd_338 my_T_signsIn mv_T_signsIn ⟨_, rfl, rfl⟩ (xT_signsIn hG (d - 1) (by omega) hq19) (by omega) h20 rfl rfl (Nat.le_of_ble_eq_true rfl) ?_
  refine zz_iadd C ddA_feed_45 ?_
  refine zz_istore (L1 := [(6, .int ((((q3.1 + q7.1) + q11.1) + q15.1) + q19.1)), (0, .ref v0), (1, .int v1), (2, .int v2), (3, .int v3), (4, .int v4), (5, .int v5)]) C ddA_feed_46 N (by decide) rfl ?_
  refine zz_aload_n C 1 ddA_feed_48 rfl rfl ?_
  obtain ⟨h21, h⟩ := gdN h
  obtain ⟨h22, h⟩ := gdN h
  refine zz_getr C ddA_feed_49 fl_A_12 rfl h21 (of_decide_eq_true h22) ?_
  obtain ⟨h23, h⟩ := gdN h
  refine zz_geti C ddA_feed_52 fl_A_98 rfl h23 ?_
  refine zz_iload C 0 ddA_feed_55 rfl ?_
  refine zz_iadd C ddA_feed_57 ?_
  refine zz_sipush (v := 240) C ddA_feed_58 (by decide) ?_
  refine zz_icmp_le (tgt := 66) C ddA_feed_61 rfl (fun hc => ?_) (fun hc => ?_)
  · replace h := iteT h hc
    refine zz_aload_n C 1 ddA_feed_66 rfl rfl ?_
    refine zz_getr C ddA_feed_67 fl_A_12 rfl h21 (of_decide_eq_true h22) ?_
    refine zz_iload_n C 2 ddA_feed_70 rfl rfl ?_
    obtain ⟨q24, hq24, h⟩ := bindN h
    refine zz_callV0 (As := [.int v1]) C ddA_feed_71 wd_342 my_T_append mv_T_append ⟨_, rfl, rfl⟩ (xT_append hG (d - 1) (by omega) hq24) (by omega) h23 rfl rfl (Nat.le_of_ble_eq_true rfl) ?_
    refine zz_aload_n C 1 ddA_feed_74 rfl rfl ?_
    obtain ⟨h25, h⟩ := gdN h
    obtain ⟨h26, h⟩ := gdN h
    refine zz_getr C ddA_feed_75 fl_A_12 rfl h25 (of_decide_eq_true h26) ?_
    refine zz_iload_n C 3 ddA_feed_78 rfl rfl ?_
    obtain ⟨h28, h⟩ := gdN h
    obtain ⟨q27, hq27, h⟩ := bindN h
    refine zz_callV0 (As := [.int v2]) C ddA_feed_79 wd_342 my_T_append mv_T_append ⟨_, rfl, rfl⟩ (xT_append hG (d - 1) (by omega) hq27) (by omega) h28 rfl rfl (Nat.le_of_ble_eq_true rfl) ?_
    refine zz_aload_n C 1 ddA_feed_82 rfl rfl ?_
    obtain ⟨h29, h⟩ := gdN h
    obtain ⟨h30, h⟩ := gdN h
    refine zz_getr C ddA_feed_83 fl_A_12 rfl h29 (of_decide_eq_true h30) ?_
    refine zz_iload_n C 4 ddA_feed_86 rfl rfl ?_
    obtain ⟨h32, h⟩ := gdN h
    obtain ⟨q31, hq31, h⟩ := bindN h
    refine zz_callV0 (As := [.int v3]) C ddA_feed_87 wd_342 my_T_append mv_T_append ⟨_, rfl, rfl⟩ (xT_append hG (d - 1) (by omega) hq31) (by omega) h32 rfl rfl (Nat.le_of_ble_eq_true rfl) ?_
    refine zz_aload_n C 1 ddA_feed_90 rfl rfl ?_
    obtain ⟨h33, h⟩ := gdN h
    obtain ⟨h34, h⟩ := gdN h
    refine zz_getr C ddA_feed_91 fl_A_12 rfl h33 (of_decide_eq_true h34) ?_
    refine zz_iload C 5 ddA_feed_94 rfl ?_
    obtain ⟨h36, h⟩ := gdN h
    obtain ⟨q35, hq35, h⟩ := bindN h
    refine zz_callV0 (As := [.int v4]) C ddA_feed_96 wd_342 my_T_append mv_T_append ⟨_, rfl, rfl⟩ (xT_append hG (d - 1) (by omega) hq35) (by omega) h36 rfl rfl (Nat.le_of_ble_eq_true rfl) ?_
    refine zz_aload_n C 1 ddA_feed_99 rfl rfl ?_
    obtain ⟨h37, h⟩ := gdN h
    obtain ⟨h38, h⟩ := gdN h
    refine zz_getr C ddA_feed_100 fl_A_12 rfl h37 (of_decide_eq_true h38) ?_
    refine zz_iload C 6 ddA_feed_103 rfl ?_
    obtain ⟨h40, h⟩ := gdN h
    obtain ⟨q39, hq39, h⟩ := bindN h
    refine zz_callV0 (As := [.int v5]) C ddA_feed_105 wd_342 my_T_append mv_T_append ⟨_, rfl, rfl⟩ (xT_append hG (d - 1) (by omega) hq39) (by omega) h40 rfl rfl (Nat.le_of_ble_eq_true rfl) ?_
    refine zz_aload_n C 1 ddA_feed_108 rfl rfl ?_
    obtain ⟨h41, h⟩ := gdN h
    obtain ⟨h42, h⟩ := gdN h
    refine zz_getr C ddA_feed_109 fl_A_12 rfl h41 (of_decide_eq_true h42) ?_
    obtain ⟨h43, h⟩ := gdN h
    refine zz_geti C ddA_feed_112 fl_A_98 rfl h43 ?_
    obtain rfl := Option.some.inj h
    exact zz_iret C E ddA_feed_115
  · replace h := iteF h hc
    refine zz_iconst (v := (-1)) C ddA_feed_64 (by decide) ?_
    obtain rfl := Option.some.inj h
    exact zz_iret C E ddA_feed_65
theorem ddA_end_0 : decode cA_end 0 = .ok (.iload_n 1, 1) := by decide +kernel
theorem ddA_end_1 : decode cA_end 1 = .ok (.ifCond .lt 14, 3) := by decide +kernel
theorem ddA_end_4 : decode cA_end 4 = .ok (.iload_n 1, 1) := by decide +kernel
theorem ddA_end_5 : decode cA_end 5 = .ok (.aload_n 0, 1) := by decide +kernel
theorem ddA_end_6 : decode cA_end 6 = .ok (.getfield 12, 3) := by decide +kernel
theorem ddA_end_9 : decode cA_end 9 = .ok (.getfield 98, 3) := by decide +kernel
theorem ddA_end_12 : decode cA_end 12 = .ok (.if_icmp .le 5, 3) := by decide +kernel
theorem ddA_end_15 : decode cA_end 15 = .ok (.iconst 0, 1) := by decide +kernel
theorem ddA_end_16 : decode cA_end 16 = .ok (.ireturn, 1) := by decide +kernel
theorem ddA_end_17 : decode cA_end 17 = .ok (.aload_n 0, 1) := by decide +kernel
theorem ddA_end_18 : decode cA_end 18 = .ok (.getfield 12, 3) := by decide +kernel
theorem ddA_end_21 : decode cA_end 21 = .ok (.iload_n 1, 1) := by decide +kernel
theorem ddA_end_22 : decode cA_end 22 = .ok (.putfield 98, 3) := by decide +kernel
theorem ddA_end_25 : decode cA_end 25 = .ok (.iconst 1, 1) := by decide +kernel
theorem ddA_end_26 : decode cA_end 26 = .ok (.ireturn, 1) := by decide +kernel
set_option maxHeartbeats 2000000 in
theorem zBA_end_15 {G : GXM} {X : CxM} (hG : GokM G) (C : CoM G X cA_end "HomeFreed") (N : mLM X = 2) {d : Nat} (hD : dpM X = d) (hd : 0 ≤ d)  {q : Int32 × Mem} (E : EnM G X (some .boolean) (some (.int q.1)) q.2 0 0) {M : Mem} (h : BA_end_15 M = some q) : ZM G X 15 [] [] M 0 0 := by
  unfold BA_end_15 at h
  refine zz_iconst (v := 0) C ddA_end_15 (by decide) ?_
  obtain rfl := Option.some.inj h
  exact zz_zret C (by decide) E ddA_end_16
set_option maxHeartbeats 2000000 in
theorem xA_end {G : GXM} {l : Launch} (hG : GokM G) (d : Nat) (hd : 0 ≤ d) {v0 : Nat} {v1 : Int32} {M : Mem} {q : Int32 × Mem} (h : fA_end v0 v1 M = some q) : ExM G l d 0 0 yA_end cA_end 2 (some .boolean) [.ref v0, .int v1] M (some (.int q.1)) q.2 := by
  refine ex_of hG (by decide +kernel) (Nat.le_of_ble_eq_true rfl) ?_
  intro X hl C E N hD hn
  show ZM G X 0 [(0, .ref v0), (1, .int v1)] [] M 0 0
  unfold fA_end at h
  refine zz_iload_n C 1 ddA_end_0 rfl rfl ?_
  refine zz_if_lt (tgt := 15) C ddA_end_1 rfl (fun hc => ?_) (fun hc => ?_)
  · replace h := iteT h hc
    refine zz_loc (L1 := []) [] rfl ?_
    exact zBA_end_15 hG C N hD hd E h
  · replace h := iteF h hc
    refine zz_iload_n C 1 ddA_end_4 rfl rfl ?_
    refine zz_aload_n C 0 ddA_end_5 rfl rfl ?_
    obtain ⟨h1, h⟩ := gdN h
    obtain ⟨h2, h⟩ := gdN h
    refine zz_getr C ddA_end_6 fl_A_12 rfl h1 (of_decide_eq_true h2) ?_
    obtain ⟨h3, h⟩ := gdN h
    refine zz_geti C ddA_end_9 fl_A_98 rfl h3 ?_
    refine zz_icmp_le (tgt := 17) C ddA_end_12 rfl (fun hc => ?_) (fun hc => ?_)
    · replace h := iteT h hc
      refine zz_aload_n C 0 ddA_end_17 rfl rfl ?_
      refine zz_getr C ddA_end_18 fl_A_12 rfl h1 (of_decide_eq_true h2) ?_
      refine zz_iload_n C 1 ddA_end_21 rfl rfl ?_
      refine zz_puti C ddA_end_22 fl_A_98 rfl rfl rfl h3 ?_
      refine zz_iconst (v := 1) C ddA_end_25 (by decide) ?_
      obtain rfl := Option.some.inj h
      exact zz_zret C (by decide) E ddA_end_26
    · replace h := iteF h hc
      refine zz_loc (L1 := []) [] rfl ?_
      exact zBA_end_15 hG C N hD hd E h
theorem ddR_rewind_0 : decode cR_rewind 0 = .ok (.aload_n 0, 1) := by decide +kernel
theorem ddR_rewind_1 : decode cR_rewind 1 = .ok (.iconst 0, 1) := by decide +kernel
theorem ddR_rewind_2 : decode cR_rewind 2 = .ok (.putfield 15, 3) := by decide +kernel
theorem ddR_rewind_5 : decode cR_rewind 5 = .ok (.aload_n 0, 1) := by decide +kernel
theorem ddR_rewind_6 : decode cR_rewind 6 = .ok (.iconst (-1), 1) := by decide +kernel
theorem ddR_rewind_7 : decode cR_rewind 7 = .ok (.putfield 19, 3) := by decide +kernel
theorem ddR_rewind_10 : decode cR_rewind 10 = .ok (.return_, 1) := by decide +kernel
set_option maxHeartbeats 2000000 in
theorem xR_rewind {G : GXM} {l : Launch} (hG : GokM G) (d : Nat) (hd : 0 ≤ d) {v0 : Nat} {M : Mem} {q : Mem} (h : fR_rewind v0 M = some q) : ExM G l d 0 0 yR_rewind cR_rewind 1 none [.ref v0] M none q := by
  refine ex_of hG (by decide +kernel) (Nat.le_of_ble_eq_true rfl) ?_
  intro X hl C E N hD hn
  show ZM G X 0 [(0, .ref v0)] [] M 0 0
  unfold fR_rewind at h
  refine zz_aload_n C 0 ddR_rewind_0 rfl rfl ?_
  refine zz_iconst (v := 0) C ddR_rewind_1 (by decide) ?_
  obtain ⟨h1, h⟩ := gdN h
  refine zz_puti C ddR_rewind_2 fl_R_15 rfl rfl rfl h1 ?_
  refine zz_aload_n C 0 ddR_rewind_5 rfl rfl ?_
  refine zz_iconst (v := (-1)) C ddR_rewind_6 (by decide) ?_
  refine zz_puti C ddR_rewind_7 fl_R_19 rfl rfl rfl h1 ?_
  obtain rfl := Option.some.inj h
  exact zz_vret C E ddR_rewind_10
theorem ddR_isWrong_0 : decode cR_isWrong 0 = .ok (.aload_n 0, 1) := by decide +kernel
theorem ddR_isWrong_1 : decode cR_isWrong 1 = .ok (.getfield 19, 3) := by decide +kernel
theorem ddR_isWrong_4 : decode cR_isWrong 4 = .ok (.iconst (-1), 1) := by decide +kernel
theorem ddR_isWrong_5 : decode cR_isWrong 5 = .ok (.if_icmp .eq 7, 3) := by decide +kernel
theorem ddR_isWrong_8 : decode cR_isWrong 8 = .ok (.iconst 1, 1) := by decide +kernel
theorem ddR_isWrong_9 : decode cR_isWrong 9 = .ok (.goto 4, 3) := by decide +kernel
theorem ddR_isWrong_12 : decode cR_isWrong 12 = .ok (.iconst 0, 1) := by decide +kernel
theorem ddR_isWrong_13 : decode cR_isWrong 13 = .ok (.ireturn, 1) := by decide +kernel
set_option maxHeartbeats 2000000 in
theorem zBR_isWrong_13 {G : GXM} {X : CxM} (hG : GokM G) (C : CoM G X cR_isWrong "HomeFreed$Reader") (N : mLM X = 1) {d : Nat} (hD : dpM X = d) (hd : 0 ≤ d)  {q : Int32 × Mem} (E : EnM G X (some .boolean) (some (.int q.1)) q.2 0 0) {w0 : Int32} {M : Mem} (h : BR_isWrong_13 w0 M = some q) : ZM G X 13 [] [.int w0] M 0 0 := by
  unfold BR_isWrong_13 at h
  obtain ⟨h1, h⟩ := gdN h
  obtain rfl := Option.some.inj h
  exact zz_zret C (of_decide_eq_true h1) E ddR_isWrong_13
set_option maxHeartbeats 2000000 in
theorem xR_isWrong {G : GXM} {l : Launch} (hG : GokM G) (d : Nat) (hd : 0 ≤ d) {v0 : Nat} {M : Mem} {q : Int32 × Mem} (h : fR_isWrong v0 M = some q) : ExM G l d 0 0 yR_isWrong cR_isWrong 1 (some .boolean) [.ref v0] M (some (.int q.1)) q.2 := by
  refine ex_of hG (by decide +kernel) (Nat.le_of_ble_eq_true rfl) ?_
  intro X hl C E N hD hn
  show ZM G X 0 [(0, .ref v0)] [] M 0 0
  unfold fR_isWrong at h
  refine zz_aload_n C 0 ddR_isWrong_0 rfl rfl ?_
  obtain ⟨h1, h⟩ := gdN h
  refine zz_geti C ddR_isWrong_1 fl_R_19 rfl h1 ?_
  refine zz_iconst (v := (-1)) C ddR_isWrong_4 (by decide) ?_
  refine zz_icmp_eq (tgt := 12) C ddR_isWrong_5 rfl (fun hc => ?_) (fun hc => ?_)
  · replace h := iteT h hc
    refine zz_iconst (v := 0) C ddR_isWrong_12 (by decide) ?_
    refine zz_loc (L1 := []) [] rfl ?_
    exact zBR_isWrong_13 hG C N hD hd E h
  · replace h := iteF h hc
    refine zz_iconst (v := 1) C ddR_isWrong_8 (by decide) ?_
    refine zz_goto (tgt := 13) C ddR_isWrong_9 rfl ?_
    refine zz_loc (L1 := []) [] rfl ?_
    exact zBR_isWrong_13 hG C N hD hd E h
theorem ddR_peek_0 : decode cR_peek 0 = .ok (.aload_n 0, 1) := by decide +kernel
theorem ddR_peek_1 : decode cR_peek 1 = .ok (.getfield 15, 3) := by decide +kernel
theorem ddR_peek_4 : decode cR_peek 4 = .ok (.aload_n 0, 1) := by decide +kernel
theorem ddR_peek_5 : decode cR_peek 5 = .ok (.getfield 9, 3) := by decide +kernel
theorem ddR_peek_8 : decode cR_peek 8 = .ok (.getfield 22, 3) := by decide +kernel
theorem ddR_peek_11 : decode cR_peek 11 = .ok (.if_icmp .ge 33, 3) := by decide +kernel
theorem ddR_peek_14 : decode cR_peek 14 = .ok (.aload_n 0, 1) := by decide +kernel
theorem ddR_peek_15 : decode cR_peek 15 = .ok (.getfield 9, 3) := by decide +kernel
theorem ddR_peek_18 : decode cR_peek 18 = .ok (.getfield 27, 3) := by decide +kernel
theorem ddR_peek_21 : decode cR_peek 21 = .ok (.aload_n 0, 1) := by decide +kernel
theorem ddR_peek_22 : decode cR_peek 22 = .ok (.getfield 15, 3) := by decide +kernel
theorem ddR_peek_25 : decode cR_peek 25 = .ok (.iaload, 1) := by decide +kernel
theorem ddR_peek_26 : decode cR_peek 26 = .ok (.bipush 32, 2) := by decide +kernel
theorem ddR_peek_28 : decode cR_peek 28 = .ok (.if_icmp .ne 16, 3) := by decide +kernel
theorem ddR_peek_31 : decode cR_peek 31 = .ok (.aload_n 0, 1) := by decide +kernel
theorem ddR_peek_32 : decode cR_peek 32 = .ok (.dup, 1) := by decide +kernel
theorem ddR_peek_33 : decode cR_peek 33 = .ok (.getfield 15, 3) := by decide +kernel
theorem ddR_peek_36 : decode cR_peek 36 = .ok (.iconst 1, 1) := by decide +kernel
theorem ddR_peek_37 : decode cR_peek 37 = .ok (.iadd, 1) := by decide +kernel
theorem ddR_peek_38 : decode cR_peek 38 = .ok (.putfield 15, 3) := by decide +kernel
theorem ddR_peek_41 : decode cR_peek 41 = .ok (.goto (-41), 3) := by decide +kernel
theorem ddR_peek_44 : decode cR_peek 44 = .ok (.aload_n 0, 1) := by decide +kernel
theorem ddR_peek_45 : decode cR_peek 45 = .ok (.getfield 15, 3) := by decide +kernel
theorem ddR_peek_48 : decode cR_peek 48 = .ok (.aload_n 0, 1) := by decide +kernel
theorem ddR_peek_49 : decode cR_peek 49 = .ok (.getfield 9, 3) := by decide +kernel
theorem ddR_peek_52 : decode cR_peek 52 = .ok (.getfield 22, 3) := by decide +kernel
theorem ddR_peek_55 : decode cR_peek 55 = .ok (.if_icmp .ge 18, 3) := by decide +kernel
theorem ddR_peek_58 : decode cR_peek 58 = .ok (.aload_n 0, 1) := by decide +kernel
theorem ddR_peek_59 : decode cR_peek 59 = .ok (.getfield 9, 3) := by decide +kernel
theorem ddR_peek_62 : decode cR_peek 62 = .ok (.getfield 27, 3) := by decide +kernel
theorem ddR_peek_65 : decode cR_peek 65 = .ok (.aload_n 0, 1) := by decide +kernel
theorem ddR_peek_66 : decode cR_peek 66 = .ok (.getfield 15, 3) := by decide +kernel
theorem ddR_peek_69 : decode cR_peek 69 = .ok (.iaload, 1) := by decide +kernel
theorem ddR_peek_70 : decode cR_peek 70 = .ok (.goto 4, 3) := by decide +kernel
theorem ddR_peek_73 : decode cR_peek 73 = .ok (.iconst (-1), 1) := by decide +kernel
theorem ddR_peek_74 : decode cR_peek 74 = .ok (.ireturn, 1) := by decide +kernel
set_option maxHeartbeats 2000000 in
theorem zBR_peek_74 {G : GXM} {X : CxM} (hG : GokM G) (C : CoM G X cR_peek "HomeFreed$Reader") (N : mLM X = 1) {d : Nat} (hD : dpM X = d) (hd : 0 ≤ d)  {q : Int32 × Mem} (E : EnM G X (some .int) (some (.int q.1)) q.2 0 0) {w0 : Int32} {M : Mem} (h : BR_peek_74 w0 M = some q) : ZM G X 74 [] [.int w0] M 0 0 := by
  unfold BR_peek_74 at h
  obtain rfl := Option.some.inj h
  exact zz_iret C E ddR_peek_74
set_option maxHeartbeats 2000000 in
theorem zBR_peek_44 {G : GXM} {X : CxM} (hG : GokM G) (C : CoM G X cR_peek "HomeFreed$Reader") (N : mLM X = 1) {d : Nat} (hD : dpM X = d) (hd : 0 ≤ d)  {q : Int32 × Mem} (E : EnM G X (some .int) (some (.int q.1)) q.2 0 0) {v0 : Nat} {M : Mem} (h : BR_peek_44 v0 M = some q) : ZM G X 44 [(0, .ref v0)] [] M 0 0 := by
  unfold BR_peek_44 at h
  refine zz_aload_n C 0 ddR_peek_44 rfl rfl ?_
  obtain ⟨h1, h⟩ := gdN h
  refine zz_geti C ddR_peek_45 fl_R_15 rfl h1 ?_
  refine zz_aload_n C 0 ddR_peek_48 rfl rfl ?_
  obtain ⟨h2, h⟩ := gdN h
  refine zz_getr C ddR_peek_49 fl_R_9 rfl h1 (of_decide_eq_true h2) ?_
  obtain ⟨h3, h⟩ := gdN h
  refine zz_geti C ddR_peek_52 fl_R_22 rfl h3 ?_
  refine zz_icmp_ge (tgt := 73) C ddR_peek_55 rfl (fun hc => ?_) (fun hc => ?_)
  · replace h := iteT h hc
    refine zz_iconst (v := (-1)) C ddR_peek_73 (by decide) ?_
    refine zz_loc (L1 := []) [] rfl ?_
    exact zBR_peek_74 hG C N hD hd E h
  · replace h := iteF h hc
    refine zz_aload_n C 0 ddR_peek_58 rfl rfl ?_
    refine zz_getr C ddR_peek_59 fl_R_9 rfl h1 (of_decide_eq_true h2) ?_
    obtain ⟨h4, h⟩ := gdN h
    refine zz_getr C ddR_peek_62 fl_R_27 rfl h3 (of_decide_eq_true h4) ?_
    refine zz_aload_n C 0 ddR_peek_65 rfl rfl ?_
    refine zz_geti C ddR_peek_66 fl_R_15 rfl h1 ?_
    obtain ⟨h5, h⟩ := gdN h
    refine zz_iaload C ddR_peek_69 h5 ?_
    refine zz_goto (tgt := 74) C ddR_peek_70 rfl ?_
    refine zz_loc (L1 := []) [] rfl ?_
    exact zBR_peek_74 hG C N hD hd E h
set_option maxHeartbeats 2000000 in
theorem zBR_peek_0 {G : GXM} {X : CxM} (hG : GokM G) (C : CoM G X cR_peek "HomeFreed$Reader") (N : mLM X = 1) {d : Nat} (hD : dpM X = d) (hd : 0 ≤ d) {v0 : Nat} {K : Nat → Mem → Option ((Mem))} {q : (Mem)} (hK : ∀  (M : Mem), K v0 M = some q → ZM G X 0 [(0, .ref v0)] [] M 0 0) (hx0 : ∀ y : Mem, q = y → ZM G X 44 [(0, .ref v0)] [] y 0 0) {M : Mem} (h : BR_peek_0 K v0 M = some q) : ZM G X 0 [(0, .ref v0)] [] M 0 0 := by
  unfold BR_peek_0 at h
  refine zz_aload_n C 0 ddR_peek_0 rfl rfl ?_
  obtain ⟨h1, h⟩ := gdN h
  refine zz_geti C ddR_peek_1 fl_R_15 rfl h1 ?_
  refine zz_aload_n C 0 ddR_peek_4 rfl rfl ?_
  obtain ⟨h2, h⟩ := gdN h
  refine zz_getr C ddR_peek_5 fl_R_9 rfl h1 (of_decide_eq_true h2) ?_
  obtain ⟨h3, h⟩ := gdN h
  refine zz_geti C ddR_peek_8 fl_R_22 rfl h3 ?_
  refine zz_icmp_ge (tgt := 44) C ddR_peek_11 rfl (fun hc => ?_) (fun hc => ?_)
  · replace h := iteT h hc
    exact hx0 _ (Option.some.inj h).symm
  · replace h := iteF h hc
    refine zz_aload_n C 0 ddR_peek_14 rfl rfl ?_
    refine zz_getr C ddR_peek_15 fl_R_9 rfl h1 (of_decide_eq_true h2) ?_
    obtain ⟨h4, h⟩ := gdN h
    refine zz_getr C ddR_peek_18 fl_R_27 rfl h3 (of_decide_eq_true h4) ?_
    refine zz_aload_n C 0 ddR_peek_21 rfl rfl ?_
    refine zz_geti C ddR_peek_22 fl_R_15 rfl h1 ?_
    obtain ⟨h5, h⟩ := gdN h
    refine zz_iaload C ddR_peek_25 h5 ?_
    refine zz_bipush (v := 32) C ddR_peek_26 (by decide) ?_
    refine zz_icmp_ne (tgt := 44) C ddR_peek_28 rfl (fun hc => ?_) (fun hc => ?_)
    · replace h := iteF h hc
      exact hx0 _ (Option.some.inj h).symm
    · replace h := iteT h hc
      refine zz_aload_n C 0 ddR_peek_31 rfl rfl ?_
      refine zz_dup C ddR_peek_32 rfl ?_
      refine zz_geti C ddR_peek_33 fl_R_15 rfl h1 ?_
      refine zz_iconst (v := 1) C ddR_peek_36 (by decide) ?_
      refine zz_iadd C ddR_peek_37 ?_
      refine zz_puti C ddR_peek_38 fl_R_15 rfl rfl rfl h1 ?_
      refine zz_goto (tgt := 0) C ddR_peek_41 rfl ?_
      exact hK  _ h
set_option maxHeartbeats 2000000 in
theorem zLR_peek_0 {G : GXM} {X : CxM} (hG : GokM G) (C : CoM G X cR_peek "HomeFreed$Reader") (N : mLM X = 1) {d : Nat} (hD : dpM X = d) (hd : 0 ≤ d) {v0 : Nat} {q : (Mem)} : ∀ (f : Nat)  (M : Mem), LR_peek_0 f v0 M = some q → (hx0 : ∀ y : Mem, q = y → ZM G X 44 [(0, .ref v0)] [] y 0 0) → ZM G X 0 [(0, .ref v0)] [] M 0 0 := by
  intro f
  induction f with
  | zero => intro  M h; cases h
  | succ f ih =>
    intro  M h hx0
    exact zBR_peek_0 hG C N hD hd (K := LR_peek_0 f) (q := q) (fun  M h => ih  M h hx0) hx0 h
set_option maxHeartbeats 2000000 in
theorem xR_peek {G : GXM} {l : Launch} (hG : GokM G) (d : Nat) (hd : 0 ≤ d) {v0 : Nat} {M : Mem} {q : Int32 × Mem} (h : fR_peek v0 M = some q) : ExM G l d 0 0 yR_peek cR_peek 1 (some .int) [.ref v0] M (some (.int q.1)) q.2 := by
  refine ex_of hG (by decide +kernel) (Nat.le_of_ble_eq_true rfl) ?_
  intro X hl C E N hD hn
  show ZM G X 0 [(0, .ref v0)] [] M 0 0
  unfold fR_peek at h
  obtain ⟨q1, hq1, h⟩ := bindN h
  refine zLR_peek_0 hG C N hD hd 1000000  _ hq1 ?_
  · intro y2 eq1; replace eq1 := eq1.symm; subst eq1
    exact zBR_peek_44 hG C N hD hd E h
theorem ddR_pass_0 : decode cR_pass 0 = .ok (.aload_n 0, 1) := by decide +kernel
theorem ddR_pass_1 : decode cR_pass 1 = .ok (.getfield 15, 3) := by decide +kernel
theorem ddR_pass_4 : decode cR_pass 4 = .ok (.aload_n 0, 1) := by decide +kernel
theorem ddR_pass_5 : decode cR_pass 5 = .ok (.getfield 9, 3) := by decide +kernel
theorem ddR_pass_8 : decode cR_pass 8 = .ok (.getfield 22, 3) := by decide +kernel
theorem ddR_pass_11 : decode cR_pass 11 = .ok (.if_icmp .ge 13, 3) := by decide +kernel
theorem ddR_pass_14 : decode cR_pass 14 = .ok (.aload_n 0, 1) := by decide +kernel
theorem ddR_pass_15 : decode cR_pass 15 = .ok (.dup, 1) := by decide +kernel
theorem ddR_pass_16 : decode cR_pass 16 = .ok (.getfield 15, 3) := by decide +kernel
theorem ddR_pass_19 : decode cR_pass 19 = .ok (.iconst 1, 1) := by decide +kernel
theorem ddR_pass_20 : decode cR_pass 20 = .ok (.iadd, 1) := by decide +kernel
theorem ddR_pass_21 : decode cR_pass 21 = .ok (.putfield 15, 3) := by decide +kernel
theorem ddR_pass_24 : decode cR_pass 24 = .ok (.return_, 1) := by decide +kernel
set_option maxHeartbeats 2000000 in
theorem zBR_pass_24 {G : GXM} {X : CxM} (hG : GokM G) (C : CoM G X cR_pass "HomeFreed$Reader") (N : mLM X = 1) {d : Nat} (hD : dpM X = d) (hd : 0 ≤ d)  {q : Mem} (E : EnM G X none none q 0 0) {M : Mem} (h : BR_pass_24 M = some q) : ZM G X 24 [] [] M 0 0 := by
  unfold BR_pass_24 at h
  obtain rfl := Option.some.inj h
  exact zz_vret C E ddR_pass_24
set_option maxHeartbeats 2000000 in
theorem xR_pass {G : GXM} {l : Launch} (hG : GokM G) (d : Nat) (hd : 0 ≤ d) {v0 : Nat} {M : Mem} {q : Mem} (h : fR_pass v0 M = some q) : ExM G l d 0 0 yR_pass cR_pass 1 none [.ref v0] M none q := by
  refine ex_of hG (by decide +kernel) (Nat.le_of_ble_eq_true rfl) ?_
  intro X hl C E N hD hn
  show ZM G X 0 [(0, .ref v0)] [] M 0 0
  unfold fR_pass at h
  refine zz_aload_n C 0 ddR_pass_0 rfl rfl ?_
  obtain ⟨h1, h⟩ := gdN h
  refine zz_geti C ddR_pass_1 fl_R_15 rfl h1 ?_
  refine zz_aload_n C 0 ddR_pass_4 rfl rfl ?_
  obtain ⟨h2, h⟩ := gdN h
  refine zz_getr C ddR_pass_5 fl_R_9 rfl h1 (of_decide_eq_true h2) ?_
  obtain ⟨h3, h⟩ := gdN h
  refine zz_geti C ddR_pass_8 fl_R_22 rfl h3 ?_
  refine zz_icmp_ge (tgt := 24) C ddR_pass_11 rfl (fun hc => ?_) (fun hc => ?_)
  · replace h := iteT h hc
    refine zz_loc (L1 := []) [] rfl ?_
    exact zBR_pass_24 hG C N hD hd E h
  · replace h := iteF h hc
    refine zz_aload_n C 0 ddR_pass_14 rfl rfl ?_
    refine zz_dup C ddR_pass_15 rfl ?_
    refine zz_geti C ddR_pass_16 fl_R_15 rfl h1 ?_
    refine zz_iconst (v := 1) C ddR_pass_19 (by decide) ?_
    refine zz_iadd C ddR_pass_20 ?_
    refine zz_puti C ddR_pass_21 fl_R_15 rfl rfl rfl h1 ?_
    refine zz_loc (L1 := []) [] rfl ?_
    exact zBR_pass_24 hG C N hD hd E h
theorem ddJ_coder_0 : decode cJ_coder 0 = .ok (.getstatic 38, 3) := by decide +kernel
theorem ddJ_coder_3 : decode cJ_coder 3 = .ok (.ifCond .eq 10, 3) := by decide +kernel
theorem ddJ_coder_6 : decode cJ_coder 6 = .ok (.aload_n 0, 1) := by decide +kernel
theorem ddJ_coder_7 : decode cJ_coder 7 = .ok (.getfield 15, 3) := by decide +kernel
theorem ddJ_coder_10 : decode cJ_coder 10 = .ok (.goto 4, 3) := by decide +kernel
theorem ddJ_coder_13 : decode cJ_coder 13 = .ok (.iconst 1, 1) := by decide +kernel
theorem ddJ_coder_14 : decode cJ_coder 14 = .ok (.ireturn, 1) := by decide +kernel
set_option maxHeartbeats 2000000 in
theorem zBJ_coder_14 {G : GXM} {X : CxM} (hG : GokM G) (C : CoM G X cJ_coder "java/lang/String") (N : mLM X = 1) {d : Nat} (hD : dpM X = d) (hd : 0 ≤ d)  {q : Int32 × Mem} (E : EnM G X (some .byte) (some (.int q.1)) q.2 0 0) {w0 : Int32} {M : Mem} (h : BJ_coder_14 w0 M = some q) : ZM G X 14 [] [.int w0] M 0 0 := by
  unfold BJ_coder_14 at h
  obtain ⟨h1, h⟩ := gdN h
  obtain rfl := Option.some.inj h
  exact zz_bret C (of_decide_eq_true h1) E ddJ_coder_14
set_option maxHeartbeats 2000000 in
theorem xJ_coder {G : GXM} {l : Launch} (hG : GokM G) (d : Nat) (hd : 0 ≤ d) {v0 : Nat} {M : Mem} {q : Int32 × Mem} (h : fJ_coder v0 M = some q) : ExM G l d 0 0 yJ_coder cJ_coder 1 (some .byte) [.ref v0] M (some (.int q.1)) q.2 := by
  refine ex_of hG (by decide +kernel) (Nat.le_of_ble_eq_true rfl) ?_
  intro X hl C E N hD hn
  show ZM G X 0 [(0, .ref v0)] [] M 0 0
  unfold fJ_coder at h
  refine zz_gets_CS C ddJ_coder_0 wd_395 ?_
  refine zz_if_eq (tgt := 13) C ddJ_coder_3 rfl (fun hc => ?_) (fun hc => ?_)
  · replace h := iteT h hc
    refine zz_iconst (v := 1) C ddJ_coder_13 (by decide) ?_
    refine zz_loc (L1 := []) [] rfl ?_
    exact zBJ_coder_14 hG C N hD hd E h
  · replace h := iteF h hc
    refine zz_aload_n C 0 ddJ_coder_6 rfl rfl ?_
    obtain ⟨h1, h⟩ := gdN h
    refine zz_strC C ddJ_coder_7 wd_1803 h1 ?_
    refine zz_goto (tgt := 14) C ddJ_coder_10 rfl ?_
    refine zz_loc (L1 := []) [] rfl ?_
    exact zBJ_coder_14 hG C N hD hd E h
theorem ddJ_length_0 : decode cJ_length 0 = .ok (.aload_n 0, 1) := by decide +kernel
theorem ddJ_length_1 : decode cJ_length 1 = .ok (.getfield 9, 3) := by decide +kernel
theorem ddJ_length_4 : decode cJ_length 4 = .ok (.arraylength, 1) := by decide +kernel
theorem ddJ_length_5 : decode cJ_length 5 = .ok (.aload_n 0, 1) := by decide +kernel
theorem ddJ_length_6 : decode cJ_length 6 = .ok (.invokevirtual 335, 3) := by decide +kernel
theorem ddJ_length_9 : decode cJ_length 9 = .ok (.ishr, 1) := by decide +kernel
theorem ddJ_length_10 : decode cJ_length 10 = .ok (.ireturn, 1) := by decide +kernel
set_option maxHeartbeats 2000000 in
theorem xJ_length {G : GXM} {l : Launch} (hG : GokM G) (d : Nat) (hd : 1 ≤ d) {v0 : Nat} {M : Mem} {q : Int32 × Mem} (h : fJ_length v0 M = some q) : ExM G l d 0 0 yJ_length cJ_length 1 (some .int) [.ref v0] M (some (.int q.1)) q.2 := by
  refine ex_of hG (by decide +kernel) (Nat.le_of_ble_eq_true rfl) ?_
  intro X hl C E N hD hn
  show ZM G X 0 [(0, .ref v0)] [] M 0 0
  unfold fJ_length at h
  refine zz_aload_n C 0 ddJ_length_0 rfl rfl ?_
  obtain ⟨h1, h⟩ := gdN h
  refine zz_strV C ddJ_length_1 wd_1802 h1 ?_
  obtain ⟨h2, h⟩ := gdN h
  refine zz_btlen C ddJ_length_4 h2 ?_
  refine zz_aload_n C 0 ddJ_length_5 rfl rfl ?_
  obtain ⟨q3, hq3, h⟩ := bindN h
  refine zz_callJ0 (As := []) C ddJ_length_6 wd_391 my_J_coder mv_J_coder rfl (xJ_coder hG (d - 1) (by omega) hq3) (by omega) h1 rfl rfl (Nat.le_of_ble_eq_true rfl) ?_
  refine zz_ishr C ddJ_length_9 ?_
  obtain rfl := Option.some.inj h
  exact zz_iret C E ddJ_length_10
theorem ddJ_isLatin1_0 : decode cJ_isLatin1 0 = .ok (.getstatic 38, 3) := by decide +kernel
theorem ddJ_isLatin1_3 : decode cJ_isLatin1 3 = .ok (.ifCond .eq 14, 3) := by decide +kernel
theorem ddJ_isLatin1_6 : decode cJ_isLatin1 6 = .ok (.aload_n 0, 1) := by decide +kernel
theorem ddJ_isLatin1_7 : decode cJ_isLatin1 7 = .ok (.getfield 15, 3) := by decide +kernel
theorem ddJ_isLatin1_10 : decode cJ_isLatin1 10 = .ok (.ifCond .ne 7, 3) := by decide +kernel
theorem ddJ_isLatin1_13 : decode cJ_isLatin1 13 = .ok (.iconst 1, 1) := by decide +kernel
theorem ddJ_isLatin1_14 : decode cJ_isLatin1 14 = .ok (.goto 4, 3) := by decide +kernel
theorem ddJ_isLatin1_17 : decode cJ_isLatin1 17 = .ok (.iconst 0, 1) := by decide +kernel
theorem ddJ_isLatin1_18 : decode cJ_isLatin1 18 = .ok (.ireturn, 1) := by decide +kernel
set_option maxHeartbeats 2000000 in
theorem zBJ_isLatin1_18 {G : GXM} {X : CxM} (hG : GokM G) (C : CoM G X cJ_isLatin1 "java/lang/String") (N : mLM X = 1) {d : Nat} (hD : dpM X = d) (hd : 0 ≤ d)  {q : Int32 × Mem} (E : EnM G X (some .boolean) (some (.int q.1)) q.2 0 0) {w0 : Int32} {M : Mem} (h : BJ_isLatin1_18 w0 M = some q) : ZM G X 18 [] [.int w0] M 0 0 := by
  unfold BJ_isLatin1_18 at h
  obtain ⟨h1, h⟩ := gdN h
  obtain rfl := Option.some.inj h
  exact zz_zret C (of_decide_eq_true h1) E ddJ_isLatin1_18
set_option maxHeartbeats 2000000 in
theorem zBJ_isLatin1_17 {G : GXM} {X : CxM} (hG : GokM G) (C : CoM G X cJ_isLatin1 "java/lang/String") (N : mLM X = 1) {d : Nat} (hD : dpM X = d) (hd : 0 ≤ d)  {q : Int32 × Mem} (E : EnM G X (some .boolean) (some (.int q.1)) q.2 0 0) {M : Mem} (h : BJ_isLatin1_17 M = some q) : ZM G X 17 [] [] M 0 0 := by
  unfold BJ_isLatin1_17 at h
  refine zz_iconst (v := 0) C ddJ_isLatin1_17 (by decide) ?_
  exact zBJ_isLatin1_18 hG C N hD hd E h
set_option maxHeartbeats 2000000 in
theorem xJ_isLatin1 {G : GXM} {l : Launch} (hG : GokM G) (d : Nat) (hd : 0 ≤ d) {v0 : Nat} {M : Mem} {q : Int32 × Mem} (h : fJ_isLatin1 v0 M = some q) : ExM G l d 0 0 yJ_isLatin1 cJ_isLatin1 1 (some .boolean) [.ref v0] M (some (.int q.1)) q.2 := by
  refine ex_of hG (by decide +kernel) (Nat.le_of_ble_eq_true rfl) ?_
  intro X hl C E N hD hn
  show ZM G X 0 [(0, .ref v0)] [] M 0 0
  unfold fJ_isLatin1 at h
  refine zz_gets_CS C ddJ_isLatin1_0 wd_395 ?_
  refine zz_if_eq (tgt := 17) C ddJ_isLatin1_3 rfl (fun hc => ?_) (fun hc => ?_)
  · replace h := iteT h hc
    refine zz_loc (L1 := []) [] rfl ?_
    exact zBJ_isLatin1_17 hG C N hD hd E h
  · replace h := iteF h hc
    refine zz_aload_n C 0 ddJ_isLatin1_6 rfl rfl ?_
    obtain ⟨h1, h⟩ := gdN h
    refine zz_strC C ddJ_isLatin1_7 wd_1803 h1 ?_
    refine zz_if_ne (tgt := 17) C ddJ_isLatin1_10 rfl (fun hc => ?_) (fun hc => ?_)
    · replace h := iteF h hc
      refine zz_loc (L1 := []) [] rfl ?_
      exact zBJ_isLatin1_17 hG C N hD hd E h
    · replace h := iteT h hc
      refine zz_iconst (v := 1) C ddJ_isLatin1_13 (by decide) ?_
      refine zz_goto (tgt := 18) C ddJ_isLatin1_14 rfl ?_
      refine zz_loc (L1 := []) [] rfl ?_
      exact zBJ_isLatin1_18 hG C N hD hd E h
theorem ddQ_canEncode_0 : decode cQ_canEncode 0 = .ok (.iload_n 0, 1) := by decide +kernel
theorem ddQ_canEncode_1 : decode cQ_canEncode 1 = .ok (.ifCond .lt 14, 3) := by decide +kernel
theorem ddQ_canEncode_4 : decode cQ_canEncode 4 = .ok (.iload_n 0, 1) := by decide +kernel
theorem ddQ_canEncode_5 : decode cQ_canEncode 5 = .ok (.sipush 255, 3) := by decide +kernel
theorem ddQ_canEncode_8 : decode cQ_canEncode 8 = .ok (.if_icmp .gt 7, 3) := by decide +kernel
theorem ddQ_canEncode_11 : decode cQ_canEncode 11 = .ok (.iconst 1, 1) := by decide +kernel
theorem ddQ_canEncode_12 : decode cQ_canEncode 12 = .ok (.goto 4, 3) := by decide +kernel
theorem ddQ_canEncode_15 : decode cQ_canEncode 15 = .ok (.iconst 0, 1) := by decide +kernel
theorem ddQ_canEncode_16 : decode cQ_canEncode 16 = .ok (.ireturn, 1) := by decide +kernel
set_option maxHeartbeats 2000000 in
theorem zBQ_canEncode_16 {G : GXM} {X : CxM} (hG : GokM G) (C : CoM G X cQ_canEncode "java/lang/StringLatin1") (N : mLM X = 1) {d : Nat} (hD : dpM X = d) (hd : 0 ≤ d)  {q : Int32 × Mem} (E : EnM G X (some .boolean) (some (.int q.1)) q.2 0 0) {w0 : Int32} {M : Mem} (h : BQ_canEncode_16 w0 M = some q) : ZM G X 16 [] [.int w0] M 0 0 := by
  unfold BQ_canEncode_16 at h
  obtain ⟨h1, h⟩ := gdN h
  obtain rfl := Option.some.inj h
  exact zz_zret C (of_decide_eq_true h1) E ddQ_canEncode_16
set_option maxHeartbeats 2000000 in
theorem zBQ_canEncode_15 {G : GXM} {X : CxM} (hG : GokM G) (C : CoM G X cQ_canEncode "java/lang/StringLatin1") (N : mLM X = 1) {d : Nat} (hD : dpM X = d) (hd : 0 ≤ d)  {q : Int32 × Mem} (E : EnM G X (some .boolean) (some (.int q.1)) q.2 0 0) {M : Mem} (h : BQ_canEncode_15 M = some q) : ZM G X 15 [] [] M 0 0 := by
  unfold BQ_canEncode_15 at h
  refine zz_iconst (v := 0) C ddQ_canEncode_15 (by decide) ?_
  exact zBQ_canEncode_16 hG C N hD hd E h
set_option maxHeartbeats 2000000 in
theorem xQ_canEncode {G : GXM} {l : Launch} (hG : GokM G) (d : Nat) (hd : 0 ≤ d) {v0 : Int32} {M : Mem} {q : Int32 × Mem} (h : fQ_canEncode v0 M = some q) : ExM G l d 0 0 yQ_canEncode cQ_canEncode 1 (some .boolean) [.int v0] M (some (.int q.1)) q.2 := by
  refine ex_of hG (by decide +kernel) (Nat.le_of_ble_eq_true rfl) ?_
  intro X hl C E N hD hn
  show ZM G X 0 [(0, .int v0)] [] M 0 0
  unfold fQ_canEncode at h
  refine zz_iload_n C 0 ddQ_canEncode_0 rfl rfl ?_
  refine zz_if_lt (tgt := 15) C ddQ_canEncode_1 rfl (fun hc => ?_) (fun hc => ?_)
  · replace h := iteT h hc
    refine zz_loc (L1 := []) [] rfl ?_
    exact zBQ_canEncode_15 hG C N hD hd E h
  · replace h := iteF h hc
    refine zz_iload_n C 0 ddQ_canEncode_4 rfl rfl ?_
    refine zz_sipush (v := 255) C ddQ_canEncode_5 (by decide) ?_
    refine zz_icmp_gt (tgt := 15) C ddQ_canEncode_8 rfl (fun hc => ?_) (fun hc => ?_)
    · replace h := iteT h hc
      refine zz_loc (L1 := []) [] rfl ?_
      exact zBQ_canEncode_15 hG C N hD hd E h
    · replace h := iteF h hc
      refine zz_iconst (v := 1) C ddQ_canEncode_11 (by decide) ?_
      refine zz_goto (tgt := 16) C ddQ_canEncode_12 rfl ?_
      refine zz_loc (L1 := []) [] rfl ?_
      exact zBQ_canEncode_16 hG C N hD hd E h
theorem ddK_max_0 : decode cK_max 0 = .ok (.iload_n 0, 1) := by decide +kernel
theorem ddK_max_1 : decode cK_max 1 = .ok (.iload_n 1, 1) := by decide +kernel
theorem ddK_max_2 : decode cK_max 2 = .ok (.if_icmp .lt 7, 3) := by decide +kernel
theorem ddK_max_5 : decode cK_max 5 = .ok (.iload_n 0, 1) := by decide +kernel
theorem ddK_max_6 : decode cK_max 6 = .ok (.goto 4, 3) := by decide +kernel
theorem ddK_max_9 : decode cK_max 9 = .ok (.iload_n 1, 1) := by decide +kernel
theorem ddK_max_10 : decode cK_max 10 = .ok (.ireturn, 1) := by decide +kernel
set_option maxHeartbeats 2000000 in
theorem zBK_max_10 {G : GXM} {X : CxM} (hG : GokM G) (C : CoM G X cK_max "java/lang/Math") (N : mLM X = 2) {d : Nat} (hD : dpM X = d) (hd : 0 ≤ d)  {q : Int32 × Mem} (E : EnM G X (some .int) (some (.int q.1)) q.2 0 0) {w0 : Int32} {M : Mem} (h : BK_max_10 w0 M = some q) : ZM G X 10 [] [.int w0] M 0 0 := by
  unfold BK_max_10 at h
  obtain rfl := Option.some.inj h
  exact zz_iret C E ddK_max_10
set_option maxHeartbeats 2000000 in
theorem xK_max {G : GXM} {l : Launch} (hG : GokM G) (d : Nat) (hd : 0 ≤ d) {v0 : Int32} {v1 : Int32} {M : Mem} {q : Int32 × Mem} (h : fK_max v0 v1 M = some q) : ExM G l d 0 0 yK_max cK_max 2 (some .int) [.int v0, .int v1] M (some (.int q.1)) q.2 := by
  refine ex_of hG (by decide +kernel) (Nat.le_of_ble_eq_true rfl) ?_
  intro X hl C E N hD hn
  show ZM G X 0 [(0, .int v0), (1, .int v1)] [] M 0 0
  unfold fK_max at h
  refine zz_iload_n C 0 ddK_max_0 rfl rfl ?_
  refine zz_iload_n C 1 ddK_max_1 rfl rfl ?_
  refine zz_icmp_lt (tgt := 9) C ddK_max_2 rfl (fun hc => ?_) (fun hc => ?_)
  · replace h := iteT h hc
    refine zz_iload_n C 1 ddK_max_9 rfl rfl ?_
    refine zz_loc (L1 := []) [] rfl ?_
    exact zBK_max_10 hG C N hD hd E h
  · replace h := iteF h hc
    refine zz_iload_n C 0 ddK_max_5 rfl rfl ?_
    refine zz_goto (tgt := 10) C ddK_max_6 rfl ?_
    refine zz_loc (L1 := []) [] rfl ?_
    exact zBK_max_10 hG C N hD hd E h
theorem ddK_min_0 : decode cK_min 0 = .ok (.iload_n 0, 1) := by decide +kernel
theorem ddK_min_1 : decode cK_min 1 = .ok (.iload_n 1, 1) := by decide +kernel
theorem ddK_min_2 : decode cK_min 2 = .ok (.if_icmp .gt 7, 3) := by decide +kernel
theorem ddK_min_5 : decode cK_min 5 = .ok (.iload_n 0, 1) := by decide +kernel
theorem ddK_min_6 : decode cK_min 6 = .ok (.goto 4, 3) := by decide +kernel
theorem ddK_min_9 : decode cK_min 9 = .ok (.iload_n 1, 1) := by decide +kernel
theorem ddK_min_10 : decode cK_min 10 = .ok (.ireturn, 1) := by decide +kernel
set_option maxHeartbeats 2000000 in
theorem zBK_min_10 {G : GXM} {X : CxM} (hG : GokM G) (C : CoM G X cK_min "java/lang/Math") (N : mLM X = 2) {d : Nat} (hD : dpM X = d) (hd : 0 ≤ d)  {q : Int32 × Mem} (E : EnM G X (some .int) (some (.int q.1)) q.2 0 0) {w0 : Int32} {M : Mem} (h : BK_min_10 w0 M = some q) : ZM G X 10 [] [.int w0] M 0 0 := by
  unfold BK_min_10 at h
  obtain rfl := Option.some.inj h
  exact zz_iret C E ddK_min_10
set_option maxHeartbeats 2000000 in
theorem xK_min {G : GXM} {l : Launch} (hG : GokM G) (d : Nat) (hd : 0 ≤ d) {v0 : Int32} {v1 : Int32} {M : Mem} {q : Int32 × Mem} (h : fK_min v0 v1 M = some q) : ExM G l d 0 0 yK_min cK_min 2 (some .int) [.int v0, .int v1] M (some (.int q.1)) q.2 := by
  refine ex_of hG (by decide +kernel) (Nat.le_of_ble_eq_true rfl) ?_
  intro X hl C E N hD hn
  show ZM G X 0 [(0, .int v0), (1, .int v1)] [] M 0 0
  unfold fK_min at h
  refine zz_iload_n C 0 ddK_min_0 rfl rfl ?_
  refine zz_iload_n C 1 ddK_min_1 rfl rfl ?_
  refine zz_icmp_gt (tgt := 9) C ddK_min_2 rfl (fun hc => ?_) (fun hc => ?_)
  · replace h := iteT h hc
    refine zz_iload_n C 1 ddK_min_9 rfl rfl ?_
    refine zz_loc (L1 := []) [] rfl ?_
    exact zBK_min_10 hG C N hD hd E h
  · replace h := iteF h hc
    refine zz_iload_n C 0 ddK_min_5 rfl rfl ?_
    refine zz_goto (tgt := 10) C ddK_min_6 rfl ?_
    refine zz_loc (L1 := []) [] rfl ?_
    exact zBK_min_10 hG C N hD hd E h
theorem ddQ_indexOfChar_0 : decode cQ_indexOfChar 0 = .ok (.iload_n 1, 1) := by decide +kernel
theorem ddQ_indexOfChar_1 : decode cQ_indexOfChar 1 = .ok (.i2b, 1) := by decide +kernel
theorem ddQ_indexOfChar_2 : decode cQ_indexOfChar 2 = .ok (.istore 4, 2) := by decide +kernel
theorem ddQ_indexOfChar_4 : decode cQ_indexOfChar 4 = .ok (.iload_n 2, 1) := by decide +kernel
theorem ddQ_indexOfChar_5 : decode cQ_indexOfChar 5 = .ok (.istore 5, 2) := by decide +kernel
theorem ddQ_indexOfChar_7 : decode cQ_indexOfChar 7 = .ok (.iload 5, 2) := by decide +kernel
theorem ddQ_indexOfChar_9 : decode cQ_indexOfChar 9 = .ok (.iload_n 3, 1) := by decide +kernel
theorem ddQ_indexOfChar_10 : decode cQ_indexOfChar 10 = .ok (.if_icmp .ge 21, 3) := by decide +kernel
theorem ddQ_indexOfChar_13 : decode cQ_indexOfChar 13 = .ok (.aload_n 0, 1) := by decide +kernel
theorem ddQ_indexOfChar_14 : decode cQ_indexOfChar 14 = .ok (.iload 5, 2) := by decide +kernel
theorem ddQ_indexOfChar_16 : decode cQ_indexOfChar 16 = .ok (.baload, 1) := by decide +kernel
theorem ddQ_indexOfChar_17 : decode cQ_indexOfChar 17 = .ok (.iload 4, 2) := by decide +kernel
theorem ddQ_indexOfChar_19 : decode cQ_indexOfChar 19 = .ok (.if_icmp .ne 6, 3) := by decide +kernel
theorem ddQ_indexOfChar_22 : decode cQ_indexOfChar 22 = .ok (.iload 5, 2) := by decide +kernel
theorem ddQ_indexOfChar_24 : decode cQ_indexOfChar 24 = .ok (.ireturn, 1) := by decide +kernel
theorem ddQ_indexOfChar_25 : decode cQ_indexOfChar 25 = .ok (.iinc 5 1, 3) := by decide +kernel
theorem ddQ_indexOfChar_28 : decode cQ_indexOfChar 28 = .ok (.goto (-21), 3) := by decide +kernel
theorem ddQ_indexOfChar_31 : decode cQ_indexOfChar 31 = .ok (.iconst (-1), 1) := by decide +kernel
theorem ddQ_indexOfChar_32 : decode cQ_indexOfChar 32 = .ok (.ireturn, 1) := by decide +kernel
set_option maxHeartbeats 2000000 in
theorem zBQ_indexOfChar_7 {G : GXM} {X : CxM} (hG : GokM G) (C : CoM G X cQ_indexOfChar "java/lang/StringLatin1") (N : mLM X = 6) {d : Nat} (hD : dpM X = d) (hd : 0 ≤ d) {v0 : Nat} {v3 : Int32} {v4 : Int32} {K : Nat → Int32 → Int32 → Int32 → Mem → Option ((Int32 × Mem))} {q : (Int32 × Mem)} (hK : ∀ (v5 : Int32) (M : Mem), K v0 v3 v4 v5 M = some q → ZM G X 7 [(0, .ref v0), (3, .int v3), (4, .int v4), (5, .int v5)] [] M 0 0) (hr : ∀ r : Int32 × Mem, q =  r → EnM G X (some .int) (some (.int r.1)) r.2 0 0) {v5 : Int32} {M : Mem} (h : BQ_indexOfChar_7 K v0 v3 v4 v5 M = some q) : ZM G X 7 [(0, .ref v0), (3, .int v3), (4, .int v4), (5, .int v5)] [] M 0 0 := by
  unfold BQ_indexOfChar_7 at h
  refine zz_iload C 3 ddQ_indexOfChar_7 rfl ?_
  refine zz_iload_n C 1 ddQ_indexOfChar_9 rfl rfl ?_
  refine zz_icmp_ge (tgt := 31) C ddQ_indexOfChar_10 rfl (fun hc => ?_) (fun hc => ?_)
  · replace h := iteT h hc
    refine zz_iconst (v := (-1)) C ddQ_indexOfChar_31 (by decide) ?_
    exact zz_iret C (hr _ (Option.some.inj h).symm) ddQ_indexOfChar_32
  · replace h := iteF h hc
    refine zz_aload_n C 0 ddQ_indexOfChar_13 rfl rfl ?_
    refine zz_iload C 3 ddQ_indexOfChar_14 rfl ?_
    obtain ⟨h1, h⟩ := gdN h
    obtain ⟨h2, h⟩ := gdN h
    refine zz_btld C ddQ_indexOfChar_16 h1 h2 ?_
    refine zz_iload C 2 ddQ_indexOfChar_17 rfl ?_
    refine zz_icmp_ne (tgt := 25) C ddQ_indexOfChar_19 rfl (fun hc => ?_) (fun hc => ?_)
    · replace h := iteF h hc
      refine zz_iinc (v := v5 + 1) (L1 := [(5, .int (v5 + 1)), (0, .ref v0), (3, .int v3), (4, .int v4)]) C 3 ddQ_indexOfChar_25 rfl rfl N (by decide) rfl ?_
      refine zz_goto (tgt := 7) C ddQ_indexOfChar_28 rfl ?_
      refine zz_loc (L1 := [(0, .ref v0), (3, .int v3), (4, .int v4), (5, .int (v5 + 1))]) [1, 2, 3, 0] rfl ?_
      exact hK _ _ h
    · replace h := iteT h hc
      refine zz_iload C 3 ddQ_indexOfChar_22 rfl ?_
      exact zz_iret C (hr _ (Option.some.inj h).symm) ddQ_indexOfChar_24
set_option maxHeartbeats 2000000 in
theorem zLQ_indexOfChar_7 {G : GXM} {X : CxM} (hG : GokM G) (C : CoM G X cQ_indexOfChar "java/lang/StringLatin1") (N : mLM X = 6) {d : Nat} (hD : dpM X = d) (hd : 0 ≤ d) {v0 : Nat} {v3 : Int32} {v4 : Int32} {q : (Int32 × Mem)} : ∀ (f : Nat) (v5 : Int32) (M : Mem), LQ_indexOfChar_7 f v0 v3 v4 v5 M = some q → (hr : ∀ r : Int32 × Mem, q =  r → EnM G X (some .int) (some (.int r.1)) r.2 0 0) → ZM G X 7 [(0, .ref v0), (3, .int v3), (4, .int v4), (5, .int v5)] [] M 0 0 := by
  intro f
  induction f with
  | zero => intro v5 M h; cases h
  | succ f ih =>
    intro v5 M h hr
    exact zBQ_indexOfChar_7 hG C N hD hd (K := LQ_indexOfChar_7 f) (q := q) (fun v5 M h => ih v5 M h hr) hr h
set_option maxHeartbeats 2000000 in
theorem xQ_indexOfChar {G : GXM} {l : Launch} (hG : GokM G) (d : Nat) (hd : 0 ≤ d) {v0 : Nat} {v1 : Int32} {v2 : Int32} {v3 : Int32} {M : Mem} {q : Int32 × Mem} (h : fQ_indexOfChar v0 v1 v2 v3 M = some q) : ExM G l d 0 0 yQ_indexOfChar cQ_indexOfChar 6 (some .int) [.ref v0, .int v1, .int v2, .int v3] M (some (.int q.1)) q.2 := by
  refine ex_of hG (by decide +kernel) (Nat.le_of_ble_eq_true rfl) ?_
  intro X hl C E N hD hn
  show ZM G X 0 [(0, .ref v0), (1, .int v1), (2, .int v2), (3, .int v3)] [] M 0 0
  unfold fQ_indexOfChar at h
  refine zz_iload_n C 1 ddQ_indexOfChar_0 rfl rfl ?_
  refine zz_i2b C ddQ_indexOfChar_1 ?_
  refine zz_istore (L1 := [(4, .int ((Int32.toInt8 v1).toInt32)), (0, .ref v0), (1, .int v1), (2, .int v2), (3, .int v3)]) C ddQ_indexOfChar_2 N (by decide) rfl ?_
  refine zz_iload_n C 3 ddQ_indexOfChar_4 rfl rfl ?_
  refine zz_istore (L1 := [(5, .int v2), (4, .int ((Int32.toInt8 v1).toInt32)), (0, .ref v0), (1, .int v1), (2, .int v2), (3, .int v3)]) C ddQ_indexOfChar_5 N (by decide) rfl ?_
  refine zz_loc (L1 := [(0, .ref v0), (3, .int v3), (4, .int ((Int32.toInt8 v1).toInt32)), (5, .int v2)]) [2, 5, 1, 0] rfl ?_
  obtain ⟨q1, hq1, h⟩ := bindN h
  refine zLQ_indexOfChar_7 hG C N hD hd 1000000 _ _ hq1 ?_
  · intro r2 eq1; replace eq1 := eq1.symm; subst eq1
    obtain rfl := Option.some.inj h
    exact E
theorem ddQ_indexOf_0 : decode cQ_indexOf 0 = .ok (.iload_n 1, 1) := by decide +kernel
theorem ddQ_indexOf_1 : decode cQ_indexOf 1 = .ok (.invokestatic 88, 3) := by decide +kernel
theorem ddQ_indexOf_4 : decode cQ_indexOf 4 = .ok (.ifCond .ne 5, 3) := by decide +kernel
theorem ddQ_indexOf_7 : decode cQ_indexOf 7 = .ok (.iconst (-1), 1) := by decide +kernel
theorem ddQ_indexOf_8 : decode cQ_indexOf 8 = .ok (.ireturn, 1) := by decide +kernel
theorem ddQ_indexOf_9 : decode cQ_indexOf 9 = .ok (.iload_n 2, 1) := by decide +kernel
theorem ddQ_indexOf_10 : decode cQ_indexOf 10 = .ok (.iconst 0, 1) := by decide +kernel
theorem ddQ_indexOf_11 : decode cQ_indexOf 11 = .ok (.invokestatic 92, 3) := by decide +kernel
theorem ddQ_indexOf_14 : decode cQ_indexOf 14 = .ok (.istore_n 2, 1) := by decide +kernel
theorem ddQ_indexOf_15 : decode cQ_indexOf 15 = .ok (.iload_n 3, 1) := by decide +kernel
theorem ddQ_indexOf_16 : decode cQ_indexOf 16 = .ok (.aload_n 0, 1) := by decide +kernel
theorem ddQ_indexOf_17 : decode cQ_indexOf 17 = .ok (.arraylength, 1) := by decide +kernel
theorem ddQ_indexOf_18 : decode cQ_indexOf 18 = .ok (.invokestatic 38, 3) := by decide +kernel
theorem ddQ_indexOf_21 : decode cQ_indexOf 21 = .ok (.istore_n 3, 1) := by decide +kernel
theorem ddQ_indexOf_22 : decode cQ_indexOf 22 = .ok (.iload_n 2, 1) := by decide +kernel
theorem ddQ_indexOf_23 : decode cQ_indexOf 23 = .ok (.iload_n 3, 1) := by decide +kernel
theorem ddQ_indexOf_24 : decode cQ_indexOf 24 = .ok (.if_icmp .lt 5, 3) := by decide +kernel
theorem ddQ_indexOf_27 : decode cQ_indexOf 27 = .ok (.iconst (-1), 1) := by decide +kernel
theorem ddQ_indexOf_28 : decode cQ_indexOf 28 = .ok (.ireturn, 1) := by decide +kernel
theorem ddQ_indexOf_29 : decode cQ_indexOf 29 = .ok (.aload_n 0, 1) := by decide +kernel
theorem ddQ_indexOf_30 : decode cQ_indexOf 30 = .ok (.iload_n 1, 1) := by decide +kernel
theorem ddQ_indexOf_31 : decode cQ_indexOf 31 = .ok (.iload_n 2, 1) := by decide +kernel
theorem ddQ_indexOf_32 : decode cQ_indexOf 32 = .ok (.iload_n 3, 1) := by decide +kernel
theorem ddQ_indexOf_33 : decode cQ_indexOf 33 = .ok (.invokestatic 95, 3) := by decide +kernel
theorem ddQ_indexOf_36 : decode cQ_indexOf 36 = .ok (.ireturn, 1) := by decide +kernel
set_option maxHeartbeats 2000000 in
theorem xQ_indexOf {G : GXM} {l : Launch} (hG : GokM G) (d : Nat) (hd : 1 ≤ d) {v0 : Nat} {v1 : Int32} {v2 : Int32} {v3 : Int32} {M : Mem} {q : Int32 × Mem} (h : fQ_indexOf v0 v1 v2 v3 M = some q) : ExM G l d 0 0 yQ_indexOf cQ_indexOf 4 (some .int) [.ref v0, .int v1, .int v2, .int v3] M (some (.int q.1)) q.2 := by
  refine ex_of hG (by decide +kernel) (Nat.le_of_ble_eq_true rfl) ?_
  intro X hl C E N hD hn
  show ZM G X 0 [(0, .ref v0), (1, .int v1), (2, .int v2), (3, .int v3)] [] M 0 0
  unfold fQ_indexOf at h
  refine zz_iload_n C 1 ddQ_indexOf_0 rfl rfl ?_
  obtain ⟨q1, hq1, h⟩ := bindN h
  refine zz_callS0 (As := [.int v1]) C ddQ_indexOf_1 wd_413 my_Q_canEncode mv_Q_canEncode (xQ_canEncode hG (d - 1) (by omega) hq1) (by omega) rfl rfl (Nat.le_of_ble_eq_true rfl) ?_
  refine zz_if_ne (tgt := 9) C ddQ_indexOf_4 rfl (fun hc => ?_) (fun hc => ?_)
  · replace h := iteF h hc
    refine zz_iload_n C 2 ddQ_indexOf_9 rfl rfl ?_
    refine zz_iconst (v := 0) C ddQ_indexOf_10 (by decide) ?_
    obtain ⟨q2, hq2, h⟩ := bindN h
    refine zz_callS0 (As := [.int v2, .int 0]) C ddQ_indexOf_11 wd_416 my_K_max mv_K_max (xK_max hG (d - 1) (by omega) hq2) (by omega) rfl rfl (Nat.le_of_ble_eq_true rfl) ?_
    refine zz_istore_n (L1 := [(2, .int q2.1), (0, .ref v0), (1, .int v1), (3, .int v3)]) C ddQ_indexOf_14 rfl N (by decide) rfl ?_
    refine zz_iload_n C 3 ddQ_indexOf_15 rfl rfl ?_
    refine zz_aload_n C 1 ddQ_indexOf_16 rfl rfl ?_
    obtain ⟨h3, h⟩ := gdN h
    refine zz_btlen C ddQ_indexOf_17 h3 ?_
    obtain ⟨q4, hq4, h⟩ := bindN h
    refine zz_callS0 (As := [.int v3, .int (Int32.ofNat (snM v0))]) C ddQ_indexOf_18 wd_419 my_K_min mv_K_min (xK_min hG (d - 1) (by omega) hq4) (by omega) rfl rfl (Nat.le_of_ble_eq_true rfl) ?_
    refine zz_istore_n (L1 := [(3, .int q4.1), (2, .int q2.1), (0, .ref v0), (1, .int v1)]) C ddQ_indexOf_21 rfl N (by decide) rfl ?_
    refine zz_iload_n C 1 ddQ_indexOf_22 rfl rfl ?_
    refine zz_iload_n C 0 ddQ_indexOf_23 rfl rfl ?_
    refine zz_icmp_lt (tgt := 29) C ddQ_indexOf_24 rfl (fun hc => ?_) (fun hc => ?_)
    · replace h := iteT h hc
      refine zz_aload_n C 2 ddQ_indexOf_29 rfl rfl ?_
      refine zz_iload_n C 3 ddQ_indexOf_30 rfl rfl ?_
      refine zz_iload_n C 1 ddQ_indexOf_31 rfl rfl ?_
      refine zz_iload_n C 0 ddQ_indexOf_32 rfl rfl ?_
      obtain ⟨q5, hq5, h⟩ := bindN h
      refine zz_callS0 (As := [.ref v0, .int v1, .int q2.1, .int q4.1]) C ddQ_indexOf_33 wd_422 my_Q_indexOfChar mv_Q_indexOfChar (xQ_indexOfChar hG (d - 1) (by omega) hq5) (by omega) rfl rfl (Nat.le_of_ble_eq_true rfl) ?_
      obtain rfl := Option.some.inj h
      exact zz_iret C E ddQ_indexOf_36
    · replace h := iteF h hc
      refine zz_iconst (v := (-1)) C ddQ_indexOf_27 (by decide) ?_
      obtain rfl := Option.some.inj h
      exact zz_iret C E ddQ_indexOf_28
  · replace h := iteT h hc
    refine zz_iconst (v := (-1)) C ddQ_indexOf_7 (by decide) ?_
    obtain rfl := Option.some.inj h
    exact zz_iret C E ddQ_indexOf_8
theorem ddJ_indexOf2_0 : decode cJ_indexOf2 0 = .ok (.aload_n 0, 1) := by decide +kernel
theorem ddJ_indexOf2_1 : decode cJ_indexOf2 1 = .ok (.invokevirtual 492, 3) := by decide +kernel
theorem ddJ_indexOf2_4 : decode cJ_indexOf2 4 = .ok (.ifCond .eq 19, 3) := by decide +kernel
theorem ddJ_indexOf2_7 : decode cJ_indexOf2 7 = .ok (.aload_n 0, 1) := by decide +kernel
theorem ddJ_indexOf2_8 : decode cJ_indexOf2 8 = .ok (.getfield 9, 3) := by decide +kernel
theorem ddJ_indexOf2_11 : decode cJ_indexOf2 11 = .ok (.iload_n 1, 1) := by decide +kernel
theorem ddJ_indexOf2_12 : decode cJ_indexOf2 12 = .ok (.iload_n 2, 1) := by decide +kernel
theorem ddJ_indexOf2_13 : decode cJ_indexOf2 13 = .ok (.aload_n 0, 1) := by decide +kernel
theorem ddJ_indexOf2_14 : decode cJ_indexOf2 14 = .ok (.invokevirtual 505, 3) := by decide +kernel
theorem ddJ_indexOf2_17 : decode cJ_indexOf2 17 = .ok (.invokestatic 637, 3) := by decide +kernel
theorem ddJ_indexOf2_20 : decode cJ_indexOf2 20 = .ok (.goto 16, 3) := by decide +kernel
theorem ddJ_indexOf2_23 : decode cJ_indexOf2 23 = .ok (.aload_n 0, 1) := by decide +kernel
theorem ddJ_indexOf2_24 : decode cJ_indexOf2 24 = .ok (.getfield 9, 3) := by decide +kernel
theorem ddJ_indexOf2_27 : decode cJ_indexOf2 27 = .ok (.iload_n 1, 1) := by decide +kernel
theorem ddJ_indexOf2_28 : decode cJ_indexOf2 28 = .ok (.iload_n 2, 1) := by decide +kernel
theorem ddJ_indexOf2_29 : decode cJ_indexOf2 29 = .ok (.aload_n 0, 1) := by decide +kernel
theorem ddJ_indexOf2_30 : decode cJ_indexOf2 30 = .ok (.invokevirtual 505, 3) := by decide +kernel
theorem ddJ_indexOf2_33 : decode cJ_indexOf2 33 = .ok (.invokestatic 640, 3) := by decide +kernel
theorem ddJ_indexOf2_36 : decode cJ_indexOf2 36 = .ok (.ireturn, 1) := by decide +kernel
set_option maxHeartbeats 2000000 in
theorem zBJ_indexOf2_36 {G : GXM} {X : CxM} (hG : GokM G) (C : CoM G X cJ_indexOf2 "java/lang/String") (N : mLM X = 3) {d : Nat} (hD : dpM X = d) (hd : 2 ≤ d)  {q : Int32 × Mem} (E : EnM G X (some .int) (some (.int q.1)) q.2 0 0) {w0 : Int32} {M : Mem} (h : BJ_indexOf2_36 w0 M = some q) : ZM G X 36 [] [.int w0] M 0 0 := by
  unfold BJ_indexOf2_36 at h
  obtain rfl := Option.some.inj h
  exact zz_iret C E ddJ_indexOf2_36
set_option maxHeartbeats 2000000 in
theorem xJ_indexOf2 {G : GXM} {l : Launch} (hG : GokM G) (d : Nat) (hd : 2 ≤ d) {v0 : Nat} {v1 : Int32} {v2 : Int32} {M : Mem} {q : Int32 × Mem} (h : fJ_indexOf2 v0 v1 v2 M = some q) : ExM G l d 0 0 yJ_indexOf2 cJ_indexOf2 3 (some .int) [.ref v0, .int v1, .int v2] M (some (.int q.1)) q.2 := by
  refine ex_of hG (by decide +kernel) (Nat.le_of_ble_eq_true rfl) ?_
  intro X hl C E N hD hn
  show ZM G X 0 [(0, .ref v0), (1, .int v1), (2, .int v2)] [] M 0 0
  unfold fJ_indexOf2 at h
  refine zz_aload_n C 0 ddJ_indexOf2_0 rfl rfl ?_
  obtain ⟨h2, h⟩ := gdN h
  obtain ⟨q1, hq1, h⟩ := bindN h
  refine zz_callJ0 (As := []) C ddJ_indexOf2_1 wd_405 my_J_isLatin1 mv_J_isLatin1 rfl (xJ_isLatin1 hG (d - 1) (by omega) hq1) (by omega) h2 rfl rfl (Nat.le_of_ble_eq_true rfl) ?_
  refine zz_if_eq (tgt := 23) C ddJ_indexOf2_4 rfl (fun hc => ?_) (fun hc => ?_)
  · replace h := iteT h hc
    refine zz_aload_n C 0 ddJ_indexOf2_23 rfl rfl ?_
    obtain ⟨h3, h⟩ := gdN h
    refine zz_strV C ddJ_indexOf2_24 wd_1802 h3 ?_
    refine zz_iload_n C 1 ddJ_indexOf2_27 rfl rfl ?_
    refine zz_iload_n C 2 ddJ_indexOf2_28 rfl rfl ?_
    refine zz_aload_n C 0 ddJ_indexOf2_29 rfl rfl ?_
    obtain ⟨q4, hq4, h⟩ := bindN h
    refine zz_callJ0 (As := []) C ddJ_indexOf2_30 wd_409 my_J_length mv_J_length rfl (xJ_length hG (d - 1) (by omega) hq4) (by omega) h3 rfl rfl (Nat.le_of_ble_eq_true rfl) ?_
    cases h
  · replace h := iteF h hc
    refine zz_aload_n C 0 ddJ_indexOf2_7 rfl rfl ?_
    obtain ⟨h5, h⟩ := gdN h
    refine zz_strV C ddJ_indexOf2_8 wd_1802 h5 ?_
    refine zz_iload_n C 1 ddJ_indexOf2_11 rfl rfl ?_
    refine zz_iload_n C 2 ddJ_indexOf2_12 rfl rfl ?_
    refine zz_aload_n C 0 ddJ_indexOf2_13 rfl rfl ?_
    obtain ⟨q6, hq6, h⟩ := bindN h
    refine zz_callJ0 (As := []) C ddJ_indexOf2_14 wd_409 my_J_length mv_J_length rfl (xJ_length hG (d - 1) (by omega) hq6) (by omega) h5 rfl rfl (Nat.le_of_ble_eq_true rfl) ?_
    obtain ⟨q7, hq7, h⟩ := bindN h
    refine zz_callS0 (As := [.ref (v0 + 1000), .int v1, .int v2, .int q6.1]) C ddJ_indexOf2_17 wd_410 my_Q_indexOf mv_Q_indexOf (xQ_indexOf hG (d - 1) (by omega) hq7) (by omega) rfl rfl (Nat.le_of_ble_eq_true rfl) ?_
    refine zz_goto (tgt := 36) C ddJ_indexOf2_20 rfl ?_
    refine zz_loc (L1 := []) [] rfl ?_
    exact zBJ_indexOf2_36 hG C N hD hd E h
theorem ddJ_indexOf_0 : decode cJ_indexOf 0 = .ok (.aload_n 0, 1) := by decide +kernel
theorem ddJ_indexOf_1 : decode cJ_indexOf 1 = .ok (.iload_n 1, 1) := by decide +kernel
theorem ddJ_indexOf_2 : decode cJ_indexOf 2 = .ok (.iconst 0, 1) := by decide +kernel
theorem ddJ_indexOf_3 : decode cJ_indexOf 3 = .ok (.invokevirtual 633, 3) := by decide +kernel
theorem ddJ_indexOf_6 : decode cJ_indexOf 6 = .ok (.ireturn, 1) := by decide +kernel
set_option maxHeartbeats 2000000 in
theorem xJ_indexOf {G : GXM} {l : Launch} (hG : GokM G) (d : Nat) (hd : 3 ≤ d) {v0 : Nat} {v1 : Int32} {M : Mem} {q : Int32 × Mem} (h : fJ_indexOf v0 v1 M = some q) : ExM G l d 0 0 yJ_indexOf cJ_indexOf 2 (some .int) [.ref v0, .int v1] M (some (.int q.1)) q.2 := by
  refine ex_of hG (by decide +kernel) (Nat.le_of_ble_eq_true rfl) ?_
  intro X hl C E N hD hn
  show ZM G X 0 [(0, .ref v0), (1, .int v1)] [] M 0 0
  unfold fJ_indexOf at h
  refine zz_aload_n C 0 ddJ_indexOf_0 rfl rfl ?_
  refine zz_iload_n C 1 ddJ_indexOf_1 rfl rfl ?_
  refine zz_iconst (v := 0) C ddJ_indexOf_2 (by decide) ?_
  obtain ⟨h2, h⟩ := gdN h
  obtain ⟨q1, hq1, h⟩ := bindN h
  refine zz_callJ0 (As := [.int v1, .int 0]) C ddJ_indexOf_3 wd_401 my_J_indexOf2 mv_J_indexOf2 rfl (xJ_indexOf2 hG (d - 1) (by omega) hq1) (by omega) h2 rfl rfl (Nat.le_of_ble_eq_true rfl) ?_
  obtain rfl := Option.some.inj h
  exact zz_iret C E ddJ_indexOf_6
theorem ddR_mark_0 : decode cR_mark 0 = .ok (.aload_n 0, 1) := by decide +kernel
theorem ddR_mark_1 : decode cR_mark 1 = .ok (.getfield 19, 3) := by decide +kernel
theorem ddR_mark_4 : decode cR_mark 4 = .ok (.iconst (-1), 1) := by decide +kernel
theorem ddR_mark_5 : decode cR_mark 5 = .ok (.if_icmp .ne 11, 3) := by decide +kernel
theorem ddR_mark_8 : decode cR_mark 8 = .ok (.aload_n 0, 1) := by decide +kernel
theorem ddR_mark_9 : decode cR_mark 9 = .ok (.aload_n 0, 1) := by decide +kernel
theorem ddR_mark_10 : decode cR_mark 10 = .ok (.getfield 15, 3) := by decide +kernel
theorem ddR_mark_13 : decode cR_mark 13 = .ok (.putfield 19, 3) := by decide +kernel
theorem ddR_mark_16 : decode cR_mark 16 = .ok (.return_, 1) := by decide +kernel
set_option maxHeartbeats 2000000 in
theorem zBR_mark_16 {G : GXM} {X : CxM} (hG : GokM G) (C : CoM G X cR_mark "HomeFreed$Reader") (N : mLM X = 1) {d : Nat} (hD : dpM X = d) (hd : 0 ≤ d)  {q : Mem} (E : EnM G X none none q 0 0) {M : Mem} (h : BR_mark_16 M = some q) : ZM G X 16 [] [] M 0 0 := by
  unfold BR_mark_16 at h
  obtain rfl := Option.some.inj h
  exact zz_vret C E ddR_mark_16
set_option maxHeartbeats 2000000 in
theorem xR_mark {G : GXM} {l : Launch} (hG : GokM G) (d : Nat) (hd : 0 ≤ d) {v0 : Nat} {M : Mem} {q : Mem} (h : fR_mark v0 M = some q) : ExM G l d 0 0 yR_mark cR_mark 1 none [.ref v0] M none q := by
  refine ex_of hG (by decide +kernel) (Nat.le_of_ble_eq_true rfl) ?_
  intro X hl C E N hD hn
  show ZM G X 0 [(0, .ref v0)] [] M 0 0
  unfold fR_mark at h
  refine zz_aload_n C 0 ddR_mark_0 rfl rfl ?_
  obtain ⟨h1, h⟩ := gdN h
  refine zz_geti C ddR_mark_1 fl_R_19 rfl h1 ?_
  refine zz_iconst (v := (-1)) C ddR_mark_4 (by decide) ?_
  refine zz_icmp_ne (tgt := 16) C ddR_mark_5 rfl (fun hc => ?_) (fun hc => ?_)
  · replace h := iteF h hc
    refine zz_loc (L1 := []) [] rfl ?_
    exact zBR_mark_16 hG C N hD hd E h
  · replace h := iteT h hc
    refine zz_aload_n C 0 ddR_mark_8 rfl rfl ?_
    refine zz_aload_n C 0 ddR_mark_9 rfl rfl ?_
    refine zz_geti C ddR_mark_10 fl_R_15 rfl h1 ?_
    refine zz_puti C ddR_mark_13 fl_R_19 rfl rfl rfl h1 ?_
    refine zz_loc (L1 := []) [] rfl ?_
    exact zBR_mark_16 hG C N hD hd E h
theorem ddR_isDigit_0 : decode cR_isDigit 0 = .ok (.iload_n 0, 1) := by decide +kernel
theorem ddR_isDigit_1 : decode cR_isDigit 1 = .ok (.bipush 48, 2) := by decide +kernel
theorem ddR_isDigit_3 : decode cR_isDigit 3 = .ok (.if_icmp .lt 13, 3) := by decide +kernel
theorem ddR_isDigit_6 : decode cR_isDigit 6 = .ok (.iload_n 0, 1) := by decide +kernel
theorem ddR_isDigit_7 : decode cR_isDigit 7 = .ok (.bipush 57, 2) := by decide +kernel
theorem ddR_isDigit_9 : decode cR_isDigit 9 = .ok (.if_icmp .gt 7, 3) := by decide +kernel
theorem ddR_isDigit_12 : decode cR_isDigit 12 = .ok (.iconst 1, 1) := by decide +kernel
theorem ddR_isDigit_13 : decode cR_isDigit 13 = .ok (.goto 4, 3) := by decide +kernel
theorem ddR_isDigit_16 : decode cR_isDigit 16 = .ok (.iconst 0, 1) := by decide +kernel
theorem ddR_isDigit_17 : decode cR_isDigit 17 = .ok (.ireturn, 1) := by decide +kernel
set_option maxHeartbeats 2000000 in
theorem zBR_isDigit_17 {G : GXM} {X : CxM} (hG : GokM G) (C : CoM G X cR_isDigit "HomeFreed$Reader") (N : mLM X = 1) {d : Nat} (hD : dpM X = d) (hd : 0 ≤ d)  {q : Int32 × Mem} (E : EnM G X (some .boolean) (some (.int q.1)) q.2 0 0) {w0 : Int32} {M : Mem} (h : BR_isDigit_17 w0 M = some q) : ZM G X 17 [] [.int w0] M 0 0 := by
  unfold BR_isDigit_17 at h
  obtain ⟨h1, h⟩ := gdN h
  obtain rfl := Option.some.inj h
  exact zz_zret C (of_decide_eq_true h1) E ddR_isDigit_17
set_option maxHeartbeats 2000000 in
theorem zBR_isDigit_16 {G : GXM} {X : CxM} (hG : GokM G) (C : CoM G X cR_isDigit "HomeFreed$Reader") (N : mLM X = 1) {d : Nat} (hD : dpM X = d) (hd : 0 ≤ d)  {q : Int32 × Mem} (E : EnM G X (some .boolean) (some (.int q.1)) q.2 0 0) {M : Mem} (h : BR_isDigit_16 M = some q) : ZM G X 16 [] [] M 0 0 := by
  unfold BR_isDigit_16 at h
  refine zz_iconst (v := 0) C ddR_isDigit_16 (by decide) ?_
  exact zBR_isDigit_17 hG C N hD hd E h
set_option maxHeartbeats 2000000 in
theorem xR_isDigit {G : GXM} {l : Launch} (hG : GokM G) (d : Nat) (hd : 0 ≤ d) {v0 : Int32} {M : Mem} {q : Int32 × Mem} (h : fR_isDigit v0 M = some q) : ExM G l d 0 0 yR_isDigit cR_isDigit 1 (some .boolean) [.int v0] M (some (.int q.1)) q.2 := by
  refine ex_of hG (by decide +kernel) (Nat.le_of_ble_eq_true rfl) ?_
  intro X hl C E N hD hn
  show ZM G X 0 [(0, .int v0)] [] M 0 0
  unfold fR_isDigit at h
  refine zz_iload_n C 0 ddR_isDigit_0 rfl rfl ?_
  refine zz_bipush (v := 48) C ddR_isDigit_1 (by decide) ?_
  refine zz_icmp_lt (tgt := 16) C ddR_isDigit_3 rfl (fun hc => ?_) (fun hc => ?_)
  · replace h := iteT h hc
    refine zz_loc (L1 := []) [] rfl ?_
    exact zBR_isDigit_16 hG C N hD hd E h
  · replace h := iteF h hc
    refine zz_iload_n C 0 ddR_isDigit_6 rfl rfl ?_
    refine zz_bipush (v := 57) C ddR_isDigit_7 (by decide) ?_
    refine zz_icmp_gt (tgt := 16) C ddR_isDigit_9 rfl (fun hc => ?_) (fun hc => ?_)
    · replace h := iteT h hc
      refine zz_loc (L1 := []) [] rfl ?_
      exact zBR_isDigit_16 hG C N hD hd E h
    · replace h := iteF h hc
      refine zz_iconst (v := 1) C ddR_isDigit_12 (by decide) ?_
      refine zz_goto (tgt := 17) C ddR_isDigit_13 rfl ?_
      refine zz_loc (L1 := []) [] rfl ?_
      exact zBR_isDigit_17 hG C N hD hd E h
theorem ddR_readDigit_0 : decode cR_readDigit 0 = .ok (.aload_n 0, 1) := by decide +kernel
theorem ddR_readDigit_1 : decode cR_readDigit 1 = .ok (.invokevirtual 31, 3) := by decide +kernel
theorem ddR_readDigit_4 : decode cR_readDigit 4 = .ok (.istore_n 1, 1) := by decide +kernel
theorem ddR_readDigit_5 : decode cR_readDigit 5 = .ok (.iload_n 1, 1) := by decide +kernel
theorem ddR_readDigit_6 : decode cR_readDigit 6 = .ok (.invokestatic 41, 3) := by decide +kernel
theorem ddR_readDigit_9 : decode cR_readDigit 9 = .ok (.ifCond .ne 9, 3) := by decide +kernel
theorem ddR_readDigit_12 : decode cR_readDigit 12 = .ok (.aload_n 0, 1) := by decide +kernel
theorem ddR_readDigit_13 : decode cR_readDigit 13 = .ok (.invokevirtual 38, 3) := by decide +kernel
theorem ddR_readDigit_16 : decode cR_readDigit 16 = .ok (.iconst 0, 1) := by decide +kernel
theorem ddR_readDigit_17 : decode cR_readDigit 17 = .ok (.ireturn, 1) := by decide +kernel
theorem ddR_readDigit_18 : decode cR_readDigit 18 = .ok (.aload_n 0, 1) := by decide +kernel
theorem ddR_readDigit_19 : decode cR_readDigit 19 = .ok (.invokevirtual 35, 3) := by decide +kernel
theorem ddR_readDigit_22 : decode cR_readDigit 22 = .ok (.iload_n 1, 1) := by decide +kernel
theorem ddR_readDigit_23 : decode cR_readDigit 23 = .ok (.bipush 48, 2) := by decide +kernel
theorem ddR_readDigit_25 : decode cR_readDigit 25 = .ok (.isub, 1) := by decide +kernel
theorem ddR_readDigit_26 : decode cR_readDigit 26 = .ok (.ireturn, 1) := by decide +kernel
set_option maxHeartbeats 2000000 in
theorem xR_readDigit {G : GXM} {l : Launch} (hG : GokM G) (d : Nat) (hd : 1 ≤ d) {v0 : Nat} {M : Mem} {q : Int32 × Mem} (h : fR_readDigit v0 M = some q) : ExM G l d 0 0 yR_readDigit cR_readDigit 2 (some .int) [.ref v0] M (some (.int q.1)) q.2 := by
  refine ex_of hG (by decide +kernel) (Nat.le_of_ble_eq_true rfl) ?_
  intro X hl C E N hD hn
  show ZM G X 0 [(0, .ref v0)] [] M 0 0
  unfold fR_readDigit at h
  refine zz_aload_n C 0 ddR_readDigit_0 rfl rfl ?_
  obtain ⟨h2, h⟩ := gdN h
  obtain ⟨q1, hq1, h⟩ := bindN h
  refine zz_callV0 (As := []) C ddR_readDigit_1 wd_486 my_R_peek mv_R_peek ⟨_, rfl, rfl⟩ (xR_peek hG (d - 1) (by omega) hq1) (by omega) h2 rfl rfl (Nat.le_of_ble_eq_true rfl) ?_
  refine zz_istore_n (L1 := [(1, .int q1.1), (0, .ref v0)]) C ddR_readDigit_4 rfl N (by decide) rfl ?_
  refine zz_iload_n C 0 ddR_readDigit_5 rfl rfl ?_
  obtain ⟨q3, hq3, h⟩ := bindN h
  refine zz_callS0 (As := [.int q1.1]) C ddR_readDigit_6 wd_487 my_R_isDigit mv_R_isDigit (xR_isDigit hG (d - 1) (by omega) hq3) (by omega) rfl rfl (Nat.le_of_ble_eq_true rfl) ?_
  refine zz_if_ne (tgt := 18) C ddR_readDigit_9 rfl (fun hc => ?_) (fun hc => ?_)
  · replace h := iteF h hc
    refine zz_aload_n C 1 ddR_readDigit_18 rfl rfl ?_
    obtain ⟨h5, h⟩ := gdN h
    obtain ⟨q4, hq4, h⟩ := bindN h
    refine zz_callV0 (As := []) C ddR_readDigit_19 wd_491 my_R_pass mv_R_pass ⟨_, rfl, rfl⟩ (xR_pass hG (d - 1) (by omega) hq4) (by omega) h5 rfl rfl (Nat.le_of_ble_eq_true rfl) ?_
    refine zz_iload_n C 0 ddR_readDigit_22 rfl rfl ?_
    refine zz_bipush (v := 48) C ddR_readDigit_23 (by decide) ?_
    refine zz_isub C ddR_readDigit_25 ?_
    obtain rfl := Option.some.inj h
    exact zz_iret C E ddR_readDigit_26
  · replace h := iteT h hc
    refine zz_aload_n C 1 ddR_readDigit_12 rfl rfl ?_
    obtain ⟨h7, h⟩ := gdN h
    obtain ⟨q6, hq6, h⟩ := bindN h
    refine zz_callV0 (As := []) C ddR_readDigit_13 wd_490 my_R_mark mv_R_mark ⟨_, rfl, rfl⟩ (xR_mark hG (d - 1) (by omega) hq6) (by omega) h7 rfl rfl (Nat.le_of_ble_eq_true rfl) ?_
    refine zz_iconst (v := 0) C ddR_readDigit_16 (by decide) ?_
    obtain rfl := Option.some.inj h
    exact zz_iret C E ddR_readDigit_17
theorem ddR_signHere_0 : decode cR_signHere 0 = .ok (.aload_n 0, 1) := by decide +kernel
theorem ddR_signHere_1 : decode cR_signHere 1 = .ok (.getfield 15, 3) := by decide +kernel
theorem ddR_signHere_4 : decode cR_signHere 4 = .ok (.ifCond .lt 32, 3) := by decide +kernel
theorem ddR_signHere_7 : decode cR_signHere 7 = .ok (.aload_n 0, 1) := by decide +kernel
theorem ddR_signHere_8 : decode cR_signHere 8 = .ok (.getfield 15, 3) := by decide +kernel
theorem ddR_signHere_11 : decode cR_signHere 11 = .ok (.aload_n 0, 1) := by decide +kernel
theorem ddR_signHere_12 : decode cR_signHere 12 = .ok (.getfield 9, 3) := by decide +kernel
theorem ddR_signHere_15 : decode cR_signHere 15 = .ok (.getfield 22, 3) := by decide +kernel
theorem ddR_signHere_18 : decode cR_signHere 18 = .ok (.if_icmp .ge 18, 3) := by decide +kernel
theorem ddR_signHere_21 : decode cR_signHere 21 = .ok (.aload_n 0, 1) := by decide +kernel
theorem ddR_signHere_22 : decode cR_signHere 22 = .ok (.getfield 9, 3) := by decide +kernel
theorem ddR_signHere_25 : decode cR_signHere 25 = .ok (.getfield 27, 3) := by decide +kernel
theorem ddR_signHere_28 : decode cR_signHere 28 = .ok (.aload_n 0, 1) := by decide +kernel
theorem ddR_signHere_29 : decode cR_signHere 29 = .ok (.getfield 15, 3) := by decide +kernel
theorem ddR_signHere_32 : decode cR_signHere 32 = .ok (.iaload, 1) := by decide +kernel
theorem ddR_signHere_33 : decode cR_signHere 33 = .ok (.goto 4, 3) := by decide +kernel
theorem ddR_signHere_36 : decode cR_signHere 36 = .ok (.iconst (-1), 1) := by decide +kernel
theorem ddR_signHere_37 : decode cR_signHere 37 = .ok (.ireturn, 1) := by decide +kernel
set_option maxHeartbeats 2000000 in
theorem zBR_signHere_37 {G : GXM} {X : CxM} (hG : GokM G) (C : CoM G X cR_signHere "HomeFreed$Reader") (N : mLM X = 1) {d : Nat} (hD : dpM X = d) (hd : 0 ≤ d)  {q : Int32 × Mem} (E : EnM G X (some .int) (some (.int q.1)) q.2 0 0) {w0 : Int32} {M : Mem} (h : BR_signHere_37 w0 M = some q) : ZM G X 37 [] [.int w0] M 0 0 := by
  unfold BR_signHere_37 at h
  obtain rfl := Option.some.inj h
  exact zz_iret C E ddR_signHere_37
set_option maxHeartbeats 2000000 in
theorem zBR_signHere_36 {G : GXM} {X : CxM} (hG : GokM G) (C : CoM G X cR_signHere "HomeFreed$Reader") (N : mLM X = 1) {d : Nat} (hD : dpM X = d) (hd : 0 ≤ d)  {q : Int32 × Mem} (E : EnM G X (some .int) (some (.int q.1)) q.2 0 0) {M : Mem} (h : BR_signHere_36 M = some q) : ZM G X 36 [] [] M 0 0 := by
  unfold BR_signHere_36 at h
  refine zz_iconst (v := (-1)) C ddR_signHere_36 (by decide) ?_
  exact zBR_signHere_37 hG C N hD hd E h
set_option maxHeartbeats 2000000 in
theorem xR_signHere {G : GXM} {l : Launch} (hG : GokM G) (d : Nat) (hd : 0 ≤ d) {v0 : Nat} {M : Mem} {q : Int32 × Mem} (h : fR_signHere v0 M = some q) : ExM G l d 0 0 yR_signHere cR_signHere 1 (some .int) [.ref v0] M (some (.int q.1)) q.2 := by
  refine ex_of hG (by decide +kernel) (Nat.le_of_ble_eq_true rfl) ?_
  intro X hl C E N hD hn
  show ZM G X 0 [(0, .ref v0)] [] M 0 0
  unfold fR_signHere at h
  refine zz_aload_n C 0 ddR_signHere_0 rfl rfl ?_
  obtain ⟨h1, h⟩ := gdN h
  refine zz_geti C ddR_signHere_1 fl_R_15 rfl h1 ?_
  refine zz_if_lt (tgt := 36) C ddR_signHere_4 rfl (fun hc => ?_) (fun hc => ?_)
  · replace h := iteT h hc
    refine zz_loc (L1 := []) [] rfl ?_
    exact zBR_signHere_36 hG C N hD hd E h
  · replace h := iteF h hc
    refine zz_aload_n C 0 ddR_signHere_7 rfl rfl ?_
    refine zz_geti C ddR_signHere_8 fl_R_15 rfl h1 ?_
    refine zz_aload_n C 0 ddR_signHere_11 rfl rfl ?_
    obtain ⟨h2, h⟩ := gdN h
    refine zz_getr C ddR_signHere_12 fl_R_9 rfl h1 (of_decide_eq_true h2) ?_
    obtain ⟨h3, h⟩ := gdN h
    refine zz_geti C ddR_signHere_15 fl_R_22 rfl h3 ?_
    refine zz_icmp_ge (tgt := 36) C ddR_signHere_18 rfl (fun hc => ?_) (fun hc => ?_)
    · replace h := iteT h hc
      refine zz_loc (L1 := []) [] rfl ?_
      exact zBR_signHere_36 hG C N hD hd E h
    · replace h := iteF h hc
      refine zz_aload_n C 0 ddR_signHere_21 rfl rfl ?_
      refine zz_getr C ddR_signHere_22 fl_R_9 rfl h1 (of_decide_eq_true h2) ?_
      obtain ⟨h4, h⟩ := gdN h
      refine zz_getr C ddR_signHere_25 fl_R_27 rfl h3 (of_decide_eq_true h4) ?_
      refine zz_aload_n C 0 ddR_signHere_28 rfl rfl ?_
      refine zz_geti C ddR_signHere_29 fl_R_15 rfl h1 ?_
      obtain ⟨h5, h⟩ := gdN h
      refine zz_iaload C ddR_signHere_32 h5 ?_
      refine zz_goto (tgt := 37) C ddR_signHere_33 rfl ?_
      refine zz_loc (L1 := []) [] rfl ?_
      exact zBR_signHere_37 hG C N hD hd E h
theorem ddR_readNumber_0 : decode cR_readNumber 0 = .ok (.aload_n 0, 1) := by decide +kernel
theorem ddR_readNumber_1 : decode cR_readNumber 1 = .ok (.invokevirtual 45, 3) := by decide +kernel
theorem ddR_readNumber_4 : decode cR_readNumber 4 = .ok (.istore_n 3, 1) := by decide +kernel
theorem ddR_readNumber_5 : decode cR_readNumber 5 = .ok (.aload_n 0, 1) := by decide +kernel
theorem ddR_readNumber_6 : decode cR_readNumber 6 = .ok (.invokevirtual 48, 3) := by decide +kernel
theorem ddR_readNumber_9 : decode cR_readNumber 9 = .ok (.ifCond .eq 5, 3) := by decide +kernel
theorem ddR_readNumber_12 : decode cR_readNumber 12 = .ok (.iload_n 1, 1) := by decide +kernel
theorem ddR_readNumber_13 : decode cR_readNumber 13 = .ok (.ireturn, 1) := by decide +kernel
theorem ddR_readNumber_14 : decode cR_readNumber 14 = .ok (.aload_n 0, 1) := by decide +kernel
theorem ddR_readNumber_15 : decode cR_readNumber 15 = .ok (.invokevirtual 52, 3) := by decide +kernel
theorem ddR_readNumber_18 : decode cR_readNumber 18 = .ok (.invokestatic 41, 3) := by decide +kernel
theorem ddR_readNumber_21 : decode cR_readNumber 21 = .ok (.ifCond .eq 36, 3) := by decide +kernel
theorem ddR_readNumber_24 : decode cR_readNumber 24 = .ok (.iload_n 3, 1) := by decide +kernel
theorem ddR_readNumber_25 : decode cR_readNumber 25 = .ok (.bipush 10, 2) := by decide +kernel
theorem ddR_readNumber_27 : decode cR_readNumber 27 = .ok (.imul, 1) := by decide +kernel
theorem ddR_readNumber_28 : decode cR_readNumber 28 = .ok (.aload_n 0, 1) := by decide +kernel
theorem ddR_readNumber_29 : decode cR_readNumber 29 = .ok (.invokevirtual 52, 3) := by decide +kernel
theorem ddR_readNumber_32 : decode cR_readNumber 32 = .ok (.iadd, 1) := by decide +kernel
theorem ddR_readNumber_33 : decode cR_readNumber 33 = .ok (.bipush 48, 2) := by decide +kernel
theorem ddR_readNumber_35 : decode cR_readNumber 35 = .ok (.isub, 1) := by decide +kernel
theorem ddR_readNumber_36 : decode cR_readNumber 36 = .ok (.istore_n 3, 1) := by decide +kernel
theorem ddR_readNumber_37 : decode cR_readNumber 37 = .ok (.aload_n 0, 1) := by decide +kernel
theorem ddR_readNumber_38 : decode cR_readNumber 38 = .ok (.invokevirtual 35, 3) := by decide +kernel
theorem ddR_readNumber_41 : decode cR_readNumber 41 = .ok (.aload_n 0, 1) := by decide +kernel
theorem ddR_readNumber_42 : decode cR_readNumber 42 = .ok (.invokevirtual 52, 3) := by decide +kernel
theorem ddR_readNumber_45 : decode cR_readNumber 45 = .ok (.invokestatic 41, 3) := by decide +kernel
theorem ddR_readNumber_48 : decode cR_readNumber 48 = .ok (.ifCond .eq 9, 3) := by decide +kernel
theorem ddR_readNumber_51 : decode cR_readNumber 51 = .ok (.aload_n 0, 1) := by decide +kernel
theorem ddR_readNumber_52 : decode cR_readNumber 52 = .ok (.invokevirtual 38, 3) := by decide +kernel
theorem ddR_readNumber_55 : decode cR_readNumber 55 = .ok (.iload_n 1, 1) := by decide +kernel
theorem ddR_readNumber_56 : decode cR_readNumber 56 = .ok (.ireturn, 1) := by decide +kernel
theorem ddR_readNumber_57 : decode cR_readNumber 57 = .ok (.iload_n 3, 1) := by decide +kernel
theorem ddR_readNumber_58 : decode cR_readNumber 58 = .ok (.iload_n 1, 1) := by decide +kernel
theorem ddR_readNumber_59 : decode cR_readNumber 59 = .ok (.if_icmp .lt 8, 3) := by decide +kernel
theorem ddR_readNumber_62 : decode cR_readNumber 62 = .ok (.iload_n 3, 1) := by decide +kernel
theorem ddR_readNumber_63 : decode cR_readNumber 63 = .ok (.iload_n 2, 1) := by decide +kernel
theorem ddR_readNumber_64 : decode cR_readNumber 64 = .ok (.if_icmp .le 19, 3) := by decide +kernel
theorem ddR_readNumber_67 : decode cR_readNumber 67 = .ok (.aload_n 0, 1) := by decide +kernel
theorem ddR_readNumber_68 : decode cR_readNumber 68 = .ok (.dup, 1) := by decide +kernel
theorem ddR_readNumber_69 : decode cR_readNumber 69 = .ok (.getfield 15, 3) := by decide +kernel
theorem ddR_readNumber_72 : decode cR_readNumber 72 = .ok (.iconst 1, 1) := by decide +kernel
theorem ddR_readNumber_73 : decode cR_readNumber 73 = .ok (.isub, 1) := by decide +kernel
theorem ddR_readNumber_74 : decode cR_readNumber 74 = .ok (.putfield 15, 3) := by decide +kernel
theorem ddR_readNumber_77 : decode cR_readNumber 77 = .ok (.aload_n 0, 1) := by decide +kernel
theorem ddR_readNumber_78 : decode cR_readNumber 78 = .ok (.invokevirtual 38, 3) := by decide +kernel
theorem ddR_readNumber_81 : decode cR_readNumber 81 = .ok (.iload_n 1, 1) := by decide +kernel
theorem ddR_readNumber_82 : decode cR_readNumber 82 = .ok (.ireturn, 1) := by decide +kernel
theorem ddR_readNumber_83 : decode cR_readNumber 83 = .ok (.iload_n 3, 1) := by decide +kernel
theorem ddR_readNumber_84 : decode cR_readNumber 84 = .ok (.ireturn, 1) := by decide +kernel
set_option maxHeartbeats 2000000 in
theorem zBR_readNumber_67 {G : GXM} {X : CxM} (hG : GokM G) (C : CoM G X cR_readNumber "HomeFreed$Reader") (N : mLM X = 4) {d : Nat} (hD : dpM X = d) (hd : 2 ≤ d)  {q : Int32 × Mem} (E : EnM G X (some .int) (some (.int q.1)) q.2 0 0) {v0 : Nat} {v1 : Int32} {M : Mem} (h : BR_readNumber_67 v0 v1 M = some q) : ZM G X 67 [(0, .ref v0), (1, .int v1)] [] M 0 0 := by
  unfold BR_readNumber_67 at h
  refine zz_aload_n C 0 ddR_readNumber_67 rfl rfl ?_
  refine zz_dup C ddR_readNumber_68 rfl ?_
  obtain ⟨h1, h⟩ := gdN h
  refine zz_geti C ddR_readNumber_69 fl_R_15 rfl h1 ?_
  refine zz_iconst (v := 1) C ddR_readNumber_72 (by decide) ?_
  refine zz_isub C ddR_readNumber_73 ?_
  refine zz_puti C ddR_readNumber_74 fl_R_15 rfl rfl rfl h1 ?_
  refine zz_aload_n C 0 ddR_readNumber_77 rfl rfl ?_
  obtain ⟨q2, hq2, h⟩ := bindN h
  refine zz_callV0 (As := []) C ddR_readNumber_78 wd_490 my_R_mark mv_R_mark ⟨_, rfl, rfl⟩ (xR_mark hG (d - 1) (by omega) hq2) (by omega) h1 rfl rfl (Nat.le_of_ble_eq_true rfl) ?_
  refine zz_iload_n C 1 ddR_readNumber_81 rfl rfl ?_
  obtain rfl := Option.some.inj h
  exact zz_iret C E ddR_readNumber_82
set_option maxHeartbeats 2000000 in
theorem zBR_readNumber_57 {G : GXM} {X : CxM} (hG : GokM G) (C : CoM G X cR_readNumber "HomeFreed$Reader") (N : mLM X = 4) {d : Nat} (hD : dpM X = d) (hd : 2 ≤ d)  {q : Int32 × Mem} (E : EnM G X (some .int) (some (.int q.1)) q.2 0 0) {v0 : Nat} {v1 : Int32} {v2 : Int32} {v3 : Int32} {M : Mem} (h : BR_readNumber_57 v0 v1 v2 v3 M = some q) : ZM G X 57 [(0, .ref v0), (1, .int v1), (2, .int v2), (3, .int v3)] [] M 0 0 := by
  unfold BR_readNumber_57 at h
  refine zz_iload_n C 3 ddR_readNumber_57 rfl rfl ?_
  refine zz_iload_n C 1 ddR_readNumber_58 rfl rfl ?_
  refine zz_icmp_lt (tgt := 67) C ddR_readNumber_59 rfl (fun hc => ?_) (fun hc => ?_)
  · replace h := iteT h hc
    refine zz_loc (L1 := [(0, .ref v0), (1, .int v1)]) [0, 1] rfl ?_
    exact zBR_readNumber_67 hG C N hD hd E h
  · replace h := iteF h hc
    refine zz_iload_n C 3 ddR_readNumber_62 rfl rfl ?_
    refine zz_iload_n C 2 ddR_readNumber_63 rfl rfl ?_
    refine zz_icmp_le (tgt := 83) C ddR_readNumber_64 rfl (fun hc => ?_) (fun hc => ?_)
    · replace h := iteT h hc
      refine zz_iload_n C 3 ddR_readNumber_83 rfl rfl ?_
      obtain rfl := Option.some.inj h
      exact zz_iret C E ddR_readNumber_84
    · replace h := iteF h hc
      refine zz_loc (L1 := [(0, .ref v0), (1, .int v1)]) [0, 1] rfl ?_
      exact zBR_readNumber_67 hG C N hD hd E h
set_option maxHeartbeats 2000000 in
theorem xR_readNumber {G : GXM} {l : Launch} (hG : GokM G) (d : Nat) (hd : 2 ≤ d) {v0 : Nat} {v1 : Int32} {v2 : Int32} {M : Mem} {q : Int32 × Mem} (h : fR_readNumber v0 v1 v2 M = some q) : ExM G l d 0 0 yR_readNumber cR_readNumber 4 (some .int) [.ref v0, .int v1, .int v2] M (some (.int q.1)) q.2 := by
  refine ex_of hG (by decide +kernel) (Nat.le_of_ble_eq_true rfl) ?_
  intro X hl C E N hD hn
  show ZM G X 0 [(0, .ref v0), (1, .int v1), (2, .int v2)] [] M 0 0
  unfold fR_readNumber at h
  refine zz_aload_n C 0 ddR_readNumber_0 rfl rfl ?_
  obtain ⟨h2, h⟩ := gdN h
  obtain ⟨q1, hq1, h⟩ := bindN h
  refine zz_callV0 (As := []) C ddR_readNumber_1 wd_482 my_R_readDigit mv_R_readDigit ⟨_, rfl, rfl⟩ (xR_readDigit hG (d - 1) (by omega) hq1) (by omega) h2 rfl rfl (Nat.le_of_ble_eq_true rfl) ?_
  refine zz_istore_n (L1 := [(3, .int q1.1), (0, .ref v0), (1, .int v1), (2, .int v2)]) C ddR_readNumber_4 rfl N (by decide) rfl ?_
  refine zz_aload_n C 1 ddR_readNumber_5 rfl rfl ?_
  obtain ⟨h4, h⟩ := gdN h
  obtain ⟨q3, hq3, h⟩ := bindN h
  refine zz_callV0 (As := []) C ddR_readNumber_6 wd_492 my_R_isWrong mv_R_isWrong ⟨_, rfl, rfl⟩ (xR_isWrong hG (d - 1) (by omega) hq3) (by omega) h4 rfl rfl (Nat.le_of_ble_eq_true rfl) ?_
  refine zz_if_eq (tgt := 14) C ddR_readNumber_9 rfl (fun hc => ?_) (fun hc => ?_)
  · replace h := iteT h hc
    refine zz_aload_n C 1 ddR_readNumber_14 rfl rfl ?_
    obtain ⟨h6, h⟩ := gdN h
    obtain ⟨q5, hq5, h⟩ := bindN h
    refine zz_callV0 (As := []) C ddR_readNumber_15 wd_493 my_R_signHere mv_R_signHere ⟨_, rfl, rfl⟩ (xR_signHere hG (d - 1) (by omega) hq5) (by omega) h6 rfl rfl (Nat.le_of_ble_eq_true rfl) ?_
    obtain ⟨q7, hq7, h⟩ := bindN h
    refine zz_callS0 (As := [.int q5.1]) C ddR_readNumber_18 wd_487 my_R_isDigit mv_R_isDigit (xR_isDigit hG (d - 1) (by omega) hq7) (by omega) rfl rfl (Nat.le_of_ble_eq_true rfl) ?_
    refine zz_if_eq (tgt := 57) C ddR_readNumber_21 rfl (fun hc => ?_) (fun hc => ?_)
    · replace h := iteT h hc
      refine zz_loc (L1 := [(0, .ref v0), (1, .int v1), (2, .int v2), (3, .int q1.1)]) [1, 2, 3, 0] rfl ?_
      exact zBR_readNumber_57 hG C N hD hd E h
    · replace h := iteF h hc
      refine zz_iload_n C 0 ddR_readNumber_24 rfl rfl ?_
      refine zz_bipush (v := 10) C ddR_readNumber_25 (by decide) ?_
      refine zz_imul C ddR_readNumber_27 ?_
      refine zz_aload_n C 1 ddR_readNumber_28 rfl rfl ?_
      obtain ⟨h9, h⟩ := gdN h
      obtain ⟨q8, hq8, h⟩ := bindN h
      refine zz_callV0 (As := []) C ddR_readNumber_29 wd_493 my_R_signHere mv_R_signHere ⟨_, rfl, rfl⟩ (xR_signHere hG (d - 1) (by omega) hq8) (by omega) h9 rfl rfl (Nat.le_of_ble_eq_true rfl) ?_
      refine zz_iadd C ddR_readNumber_32 ?_
      refine zz_bipush (v := 48) C ddR_readNumber_33 (by decide) ?_
      refine zz_isub C ddR_readNumber_35 ?_
      refine zz_istore_n (L1 := [(3, .int (((q1.1 * 10) + q8.1) - 48)), (0, .ref v0), (1, .int v1), (2, .int v2)]) C ddR_readNumber_36 rfl N (by decide) rfl ?_
      refine zz_aload_n C 1 ddR_readNumber_37 rfl rfl ?_
      obtain ⟨h11, h⟩ := gdN h
      obtain ⟨q10, hq10, h⟩ := bindN h
      refine zz_callV0 (As := []) C ddR_readNumber_38 wd_491 my_R_pass mv_R_pass ⟨_, rfl, rfl⟩ (xR_pass hG (d - 1) (by omega) hq10) (by omega) h11 rfl rfl (Nat.le_of_ble_eq_true rfl) ?_
      refine zz_aload_n C 1 ddR_readNumber_41 rfl rfl ?_
      obtain ⟨h13, h⟩ := gdN h
      obtain ⟨q12, hq12, h⟩ := bindN h
      refine zz_callV0 (As := []) C ddR_readNumber_42 wd_493 my_R_signHere mv_R_signHere ⟨_, rfl, rfl⟩ (xR_signHere hG (d - 1) (by omega) hq12) (by omega) h13 rfl rfl (Nat.le_of_ble_eq_true rfl) ?_
      obtain ⟨q14, hq14, h⟩ := bindN h
      refine zz_callS0 (As := [.int q12.1]) C ddR_readNumber_45 wd_487 my_R_isDigit mv_R_isDigit (xR_isDigit hG (d - 1) (by omega) hq14) (by omega) rfl rfl (Nat.le_of_ble_eq_true rfl) ?_
      refine zz_if_eq (tgt := 57) C ddR_readNumber_48 rfl (fun hc => ?_) (fun hc => ?_)
      · replace h := iteT h hc
        refine zz_loc (L1 := [(0, .ref v0), (1, .int v1), (2, .int v2), (3, .int (((q1.1 * 10) + q8.1) - 48))]) [1, 2, 3, 0] rfl ?_
        exact zBR_readNumber_57 hG C N hD hd E h
      · replace h := iteF h hc
        refine zz_aload_n C 1 ddR_readNumber_51 rfl rfl ?_
        obtain ⟨h16, h⟩ := gdN h
        obtain ⟨q15, hq15, h⟩ := bindN h
        refine zz_callV0 (As := []) C ddR_readNumber_52 wd_490 my_R_mark mv_R_mark ⟨_, rfl, rfl⟩ (xR_mark hG (d - 1) (by omega) hq15) (by omega) h16 rfl rfl (Nat.le_of_ble_eq_true rfl) ?_
        refine zz_iload_n C 2 ddR_readNumber_55 rfl rfl ?_
        obtain rfl := Option.some.inj h
        exact zz_iret C E ddR_readNumber_56
  · replace h := iteF h hc
    refine zz_iload_n C 2 ddR_readNumber_12 rfl rfl ?_
    obtain rfl := Option.some.inj h
    exact zz_iret C E ddR_readNumber_13
theorem ddU_readItems_0 : decode cU_readItems 0 = .ok (.iconst 0, 1) := by decide +kernel
theorem ddU_readItems_1 : decode cU_readItems 1 = .ok (.istore 6, 2) := by decide +kernel
theorem ddU_readItems_3 : decode cU_readItems 3 = .ok (.iconst 0, 1) := by decide +kernel
theorem ddU_readItems_4 : decode cU_readItems 4 = .ok (.istore 7, 2) := by decide +kernel
theorem ddU_readItems_6 : decode cU_readItems 6 = .ok (.iload 7, 2) := by decide +kernel
theorem ddU_readItems_8 : decode cU_readItems 8 = .ok (.aload_n 1, 1) := by decide +kernel
theorem ddU_readItems_9 : decode cU_readItems 9 = .ok (.invokevirtual 80, 3) := by decide +kernel
theorem ddU_readItems_12 : decode cU_readItems 12 = .ok (.if_icmp .gt 120, 3) := by decide +kernel
theorem ddU_readItems_15 : decode cU_readItems 15 = .ok (.aload_n 0, 1) := by decide +kernel
theorem ddU_readItems_16 : decode cU_readItems 16 = .ok (.invokevirtual 36, 3) := by decide +kernel
theorem ddU_readItems_19 : decode cU_readItems 19 = .ok (.ifCond .ne 113, 3) := by decide +kernel
theorem ddU_readItems_22 : decode cU_readItems 22 = .ok (.aload_n 0, 1) := by decide +kernel
theorem ddU_readItems_23 : decode cU_readItems 23 = .ok (.invokevirtual 40, 3) := by decide +kernel
theorem ddU_readItems_26 : decode cU_readItems 26 = .ok (.istore 8, 2) := by decide +kernel
theorem ddU_readItems_28 : decode cU_readItems 28 = .ok (.iload 8, 2) := by decide +kernel
theorem ddU_readItems_30 : decode cU_readItems 30 = .ok (.iconst (-1), 1) := by decide +kernel
theorem ddU_readItems_31 : decode cU_readItems 31 = .ok (.if_icmp .ne 7, 3) := by decide +kernel
theorem ddU_readItems_34 : decode cU_readItems 34 = .ok (.iconst (-1), 1) := by decide +kernel
theorem ddU_readItems_35 : decode cU_readItems 35 = .ok (.goto 10, 3) := by decide +kernel
theorem ddU_readItems_38 : decode cU_readItems 38 = .ok (.aload_n 1, 1) := by decide +kernel
theorem ddU_readItems_39 : decode cU_readItems 39 = .ok (.iload 8, 2) := by decide +kernel
theorem ddU_readItems_41 : decode cU_readItems 41 = .ok (.i2c, 1) := by decide +kernel
theorem ddU_readItems_42 : decode cU_readItems 42 = .ok (.invokevirtual 85, 3) := by decide +kernel
theorem ddU_readItems_45 : decode cU_readItems 45 = .ok (.istore 9, 2) := by decide +kernel
theorem ddU_readItems_47 : decode cU_readItems 47 = .ok (.iload 9, 2) := by decide +kernel
theorem ddU_readItems_49 : decode cU_readItems 49 = .ok (.ifCond .lt 28, 3) := by decide +kernel
theorem ddU_readItems_52 : decode cU_readItems 52 = .ok (.iload 9, 2) := by decide +kernel
theorem ddU_readItems_54 : decode cU_readItems 54 = .ok (.aload_n 2, 1) := by decide +kernel
theorem ddU_readItems_55 : decode cU_readItems 55 = .ok (.arraylength, 1) := by decide +kernel
theorem ddU_readItems_56 : decode cU_readItems 56 = .ok (.if_icmp .ge 21, 3) := by decide +kernel
theorem ddU_readItems_59 : decode cU_readItems 59 = .ok (.iload 9, 2) := by decide +kernel
theorem ddU_readItems_61 : decode cU_readItems 61 = .ok (.aload_n 3, 1) := by decide +kernel
theorem ddU_readItems_62 : decode cU_readItems 62 = .ok (.arraylength, 1) := by decide +kernel
theorem ddU_readItems_63 : decode cU_readItems 63 = .ok (.if_icmp .ge 14, 3) := by decide +kernel
theorem ddU_readItems_66 : decode cU_readItems 66 = .ok (.iload 5, 2) := by decide +kernel
theorem ddU_readItems_68 : decode cU_readItems 68 = .ok (.iload 9, 2) := by decide +kernel
theorem ddU_readItems_70 : decode cU_readItems 70 = .ok (.iadd, 1) := by decide +kernel
theorem ddU_readItems_71 : decode cU_readItems 71 = .ok (.aload 4, 2) := by decide +kernel
theorem ddU_readItems_73 : decode cU_readItems 73 = .ok (.arraylength, 1) := by decide +kernel
theorem ddU_readItems_74 : decode cU_readItems 74 = .ok (.if_icmp .lt 4, 3) := by decide +kernel
theorem ddU_readItems_77 : decode cU_readItems 77 = .ok (.return_, 1) := by decide +kernel
theorem ddU_readItems_78 : decode cU_readItems 78 = .ok (.iload 6, 2) := by decide +kernel
theorem ddU_readItems_80 : decode cU_readItems 80 = .ok (.iload 9, 2) := by decide +kernel
theorem ddU_readItems_82 : decode cU_readItems 82 = .ok (.ishr, 1) := by decide +kernel
theorem ddU_readItems_83 : decode cU_readItems 83 = .ok (.iconst 1, 1) := by decide +kernel
theorem ddU_readItems_84 : decode cU_readItems 84 = .ok (.iand, 1) := by decide +kernel
theorem ddU_readItems_85 : decode cU_readItems 85 = .ok (.ifCond .eq 8, 3) := by decide +kernel
theorem ddU_readItems_88 : decode cU_readItems 88 = .ok (.aload_n 0, 1) := by decide +kernel
theorem ddU_readItems_89 : decode cU_readItems 89 = .ok (.invokevirtual 67, 3) := by decide +kernel
theorem ddU_readItems_92 : decode cU_readItems 92 = .ok (.return_, 1) := by decide +kernel
theorem ddU_readItems_93 : decode cU_readItems 93 = .ok (.iload 6, 2) := by decide +kernel
theorem ddU_readItems_95 : decode cU_readItems 95 = .ok (.iconst 1, 1) := by decide +kernel
theorem ddU_readItems_96 : decode cU_readItems 96 = .ok (.iload 9, 2) := by decide +kernel
theorem ddU_readItems_98 : decode cU_readItems 98 = .ok (.ishl, 1) := by decide +kernel
theorem ddU_readItems_99 : decode cU_readItems 99 = .ok (.ior, 1) := by decide +kernel
theorem ddU_readItems_100 : decode cU_readItems 100 = .ok (.istore 6, 2) := by decide +kernel
theorem ddU_readItems_102 : decode cU_readItems 102 = .ok (.aload_n 0, 1) := by decide +kernel
theorem ddU_readItems_103 : decode cU_readItems 103 = .ok (.invokevirtual 44, 3) := by decide +kernel
theorem ddU_readItems_106 : decode cU_readItems 106 = .ok (.aload 4, 2) := by decide +kernel
theorem ddU_readItems_108 : decode cU_readItems 108 = .ok (.iload 5, 2) := by decide +kernel
theorem ddU_readItems_110 : decode cU_readItems 110 = .ok (.iload 9, 2) := by decide +kernel
theorem ddU_readItems_112 : decode cU_readItems 112 = .ok (.iadd, 1) := by decide +kernel
theorem ddU_readItems_113 : decode cU_readItems 113 = .ok (.aload_n 0, 1) := by decide +kernel
theorem ddU_readItems_114 : decode cU_readItems 114 = .ok (.aload_n 2, 1) := by decide +kernel
theorem ddU_readItems_115 : decode cU_readItems 115 = .ok (.iload 9, 2) := by decide +kernel
theorem ddU_readItems_117 : decode cU_readItems 117 = .ok (.iaload, 1) := by decide +kernel
theorem ddU_readItems_118 : decode cU_readItems 118 = .ok (.aload_n 3, 1) := by decide +kernel
theorem ddU_readItems_119 : decode cU_readItems 119 = .ok (.iload 9, 2) := by decide +kernel
theorem ddU_readItems_121 : decode cU_readItems 121 = .ok (.iaload, 1) := by decide +kernel
theorem ddU_readItems_122 : decode cU_readItems 122 = .ok (.invokevirtual 89, 3) := by decide +kernel
theorem ddU_readItems_125 : decode cU_readItems 125 = .ok (.iastore, 1) := by decide +kernel
theorem ddU_readItems_126 : decode cU_readItems 126 = .ok (.iinc 7 1, 3) := by decide +kernel
theorem ddU_readItems_129 : decode cU_readItems 129 = .ok (.goto (-123), 3) := by decide +kernel
theorem ddU_readItems_132 : decode cU_readItems 132 = .ok (.return_, 1) := by decide +kernel
set_option maxHeartbeats 2000000 in
theorem zBU_readItems_132 {G : GXM} {X : CxM} (hG : GokM G) (C : CoM G X cU_readItems "HomeFreed$Rules") (N : mLM X = 10) {d : Nat} (hD : dpM X = d) (hd : 4 ≤ d)  {q : Mem} (E : EnM G X none none q 0 0) {M : Mem} (h : BU_readItems_132 M = some q) : ZM G X 132 [] [] M 0 0 := by
  unfold BU_readItems_132 at h
  obtain rfl := Option.some.inj h
  exact zz_vret C E ddU_readItems_132
set_option maxHeartbeats 2000000 in
theorem zBU_readItems_77 {G : GXM} {X : CxM} (hG : GokM G) (C : CoM G X cU_readItems "HomeFreed$Rules") (N : mLM X = 10) {d : Nat} (hD : dpM X = d) (hd : 4 ≤ d)  {q : Mem} (E : EnM G X none none q 0 0) {M : Mem} (h : BU_readItems_77 M = some q) : ZM G X 77 [] [] M 0 0 := by
  unfold BU_readItems_77 at h
  obtain rfl := Option.some.inj h
  exact zz_vret C E ddU_readItems_77
set_option maxHeartbeats 2000000 in
theorem zBU_readItems_45 {G : GXM} {X : CxM} (hG : GokM G) (C : CoM G X cU_readItems "HomeFreed$Rules") (N : mLM X = 10) {d : Nat} (hD : dpM X = d) (hd : 4 ≤ d) {v0 : Nat} {v1 : Nat} {v2 : Nat} {v3 : Nat} {v4 : Nat} {v5 : Int32} {K : Nat → Nat → Nat → Nat → Nat → Int32 → Int32 → Int32 → Mem → Option ((Mem) ⊕ ((Mem) ⊕ (Mem)))} {q : (Mem) ⊕ ((Mem) ⊕ (Mem))} (hK : ∀ (v6 : Int32) (v7 : Int32) (M : Mem), K v0 v1 v2 v3 v4 v5 v6 v7 M = some q → ZM G X 6 [(0, .ref v0), (1, .ref v1), (2, .ref v2), (3, .ref v3), (4, .ref v4), (5, .int v5), (6, .int v6), (7, .int v7)] [] M 0 0) (hr : ∀ r : Mem, q = .inl r → EnM G X none none r 0 0) (hx0 : ∀ y : Mem, q = (.inr (.inl y)) → ZM G X 77 [] [] y 0 0) (hx1 : ∀ y : Mem, q = (.inr (.inr y)) → ZM G X 132 [] [] y 0 0) {v6 : Int32} {v7 : Int32} {w0 : Int32} {M : Mem} (h : BU_readItems_45 K v0 v1 v2 v3 v4 v5 v6 v7 w0 M = some q) : ZM G X 45 [(0, .ref v0), (1, .ref v1), (2, .ref v2), (3, .ref v3), (4, .ref v4), (5, .int v5), (6, .int v6), (7, .int v7)] [.int w0] M 0 0 := by
  unfold BU_readItems_45 at h
  refine zz_istore (L1 := [(9, .int w0), (0, .ref v0), (1, .ref v1), (2, .ref v2), (3, .ref v3), (4, .ref v4), (5, .int v5), (6, .int v6), (7, .int v7)]) C ddU_readItems_45 N (by decide) rfl ?_
  refine zz_iload C 0 ddU_readItems_47 rfl ?_
  refine zz_if_lt (tgt := 77) C ddU_readItems_49 rfl (fun hc => ?_) (fun hc => ?_)
  · replace h := iteT h hc
    refine zz_loc (L1 := []) [] rfl ?_
    exact hx0 _ (Option.some.inj h).symm
  · replace h := iteF h hc
    refine zz_iload C 0 ddU_readItems_52 rfl ?_
    refine zz_aload_n C 3 ddU_readItems_54 rfl rfl ?_
    obtain ⟨h1, h⟩ := gdN h
    refine zz_alenI C ddU_readItems_55 h1 ?_
    refine zz_icmp_ge (tgt := 77) C ddU_readItems_56 rfl (fun hc => ?_) (fun hc => ?_)
    · replace h := iteT h hc
      refine zz_loc (L1 := []) [] rfl ?_
      exact hx0 _ (Option.some.inj h).symm
    · replace h := iteF h hc
      refine zz_iload C 0 ddU_readItems_59 rfl ?_
      refine zz_aload_n C 4 ddU_readItems_61 rfl rfl ?_
      obtain ⟨h2, h⟩ := gdN h
      refine zz_alenI C ddU_readItems_62 h2 ?_
      refine zz_icmp_ge (tgt := 77) C ddU_readItems_63 rfl (fun hc => ?_) (fun hc => ?_)
      · replace h := iteT h hc
        refine zz_loc (L1 := []) [] rfl ?_
        exact hx0 _ (Option.some.inj h).symm
      · replace h := iteF h hc
        refine zz_iload C 6 ddU_readItems_66 rfl ?_
        refine zz_iload C 0 ddU_readItems_68 rfl ?_
        refine zz_iadd C ddU_readItems_70 ?_
        refine zz_aload C 5 ddU_readItems_71 rfl ?_
        obtain ⟨h3, h⟩ := gdN h
        refine zz_alenI C ddU_readItems_73 h3 ?_
        refine zz_icmp_lt (tgt := 78) C ddU_readItems_74 rfl (fun hc => ?_) (fun hc => ?_)
        · replace h := iteT h hc
          refine zz_iload C 7 ddU_readItems_78 rfl ?_
          refine zz_iload C 0 ddU_readItems_80 rfl ?_
          refine zz_ishr C ddU_readItems_82 ?_
          refine zz_iconst (v := 1) C ddU_readItems_83 (by decide) ?_
          refine zz_iand C ddU_readItems_84 ?_
          refine zz_if_eq (tgt := 93) C ddU_readItems_85 rfl (fun hc => ?_) (fun hc => ?_)
          · replace h := iteT h hc
            refine zz_iload C 7 ddU_readItems_93 rfl ?_
            refine zz_iconst (v := 1) C ddU_readItems_95 (by decide) ?_
            refine zz_iload C 0 ddU_readItems_96 rfl ?_
            refine zz_ishl C ddU_readItems_98 ?_
            refine zz_ior C ddU_readItems_99 ?_
            refine zz_istore (L1 := [(6, .int (v6 ||| (1 <<< (w0 &&& 31)))), (9, .int w0), (0, .ref v0), (1, .ref v1), (2, .ref v2), (3, .ref v3), (4, .ref v4), (5, .int v5), (7, .int v7)]) C ddU_readItems_100 N (by decide) rfl ?_
            refine zz_aload_n C 2 ddU_readItems_102 rfl rfl ?_
            obtain ⟨h5, h⟩ := gdN h
            obtain ⟨q4, hq4, h⟩ := bindN h
            refine zz_callV0 (As := []) C ddU_readItems_103 wd_375 my_R_pass mv_R_pass ⟨_, rfl, rfl⟩ (xR_pass hG (d - 1) (by omega) hq4) (by omega) h5 rfl rfl (Nat.le_of_ble_eq_true rfl) ?_
            refine zz_aload C 6 ddU_readItems_106 rfl ?_
            refine zz_iload C 7 ddU_readItems_108 rfl ?_
            refine zz_iload C 1 ddU_readItems_110 rfl ?_
            refine zz_iadd C ddU_readItems_112 ?_
            refine zz_aload_n C 2 ddU_readItems_113 rfl rfl ?_
            refine zz_aload_n C 4 ddU_readItems_114 rfl rfl ?_
            refine zz_iload C 1 ddU_readItems_115 rfl ?_
            obtain ⟨h6, h⟩ := gdN h
            refine zz_iaload C ddU_readItems_117 h6 ?_
            refine zz_aload_n C 5 ddU_readItems_118 rfl rfl ?_
            refine zz_iload C 1 ddU_readItems_119 rfl ?_
            obtain ⟨h7, h⟩ := gdN h
            refine zz_iaload C ddU_readItems_121 h7 ?_
            obtain ⟨h9, h⟩ := gdN h
            obtain ⟨q8, hq8, h⟩ := bindN h
            refine zz_callV0 (As := [.int (giM q4 v2 (Int32.toNatClampNeg w0)), .int (giM q4 v3 (Int32.toNatClampNeg w0))]) C ddU_readItems_122 wd_478 my_R_readNumber mv_R_readNumber ⟨_, rfl, rfl⟩ (xR_readNumber hG (d - 1) (by omega) hq8) (by omega) h9 rfl rfl (Nat.le_of_ble_eq_true rfl) ?_
            obtain ⟨h10, h⟩ := gdN h
            refine zz_iastore C ddU_readItems_125 h10 ?_
            refine zz_iinc (v := v7 + 1) (L1 := [(7, .int (v7 + 1)), (6, .int (v6 ||| (1 <<< (w0 &&& 31)))), (9, .int w0), (0, .ref v0), (1, .ref v1), (2, .ref v2), (3, .ref v3), (4, .ref v4), (5, .int v5)]) C 8 ddU_readItems_126 rfl rfl N (by decide) rfl ?_
            refine zz_goto (tgt := 6) C ddU_readItems_129 rfl ?_
            refine zz_loc (L1 := [(0, .ref v0), (1, .ref v1), (2, .ref v2), (3, .ref v3), (4, .ref v4), (5, .int v5), (6, .int (v6 ||| (1 <<< (w0 &&& 31)))), (7, .int (v7 + 1))]) [3, 4, 5, 6, 7, 8, 1, 0] rfl ?_
            exact hK _ _ _ h
          · replace h := iteF h hc
            refine zz_aload_n C 1 ddU_readItems_88 rfl rfl ?_
            obtain ⟨h12, h⟩ := gdN h
            obtain ⟨q11, hq11, h⟩ := bindN h
            refine zz_callV0 (As := []) C ddU_readItems_89 wd_474 my_R_mark mv_R_mark ⟨_, rfl, rfl⟩ (xR_mark hG (d - 1) (by omega) hq11) (by omega) h12 rfl rfl (Nat.le_of_ble_eq_true rfl) ?_
            exact zz_vret C (hr _ (Option.some.inj h).symm) ddU_readItems_92
        · replace h := iteF h hc
          refine zz_loc (L1 := []) [] rfl ?_
          exact hx0 _ (Option.some.inj h).symm
set_option maxHeartbeats 2000000 in
theorem zBU_readItems_6 {G : GXM} {X : CxM} (hG : GokM G) (C : CoM G X cU_readItems "HomeFreed$Rules") (N : mLM X = 10) {d : Nat} (hD : dpM X = d) (hd : 4 ≤ d) {v0 : Nat} {v1 : Nat} {v2 : Nat} {v3 : Nat} {v4 : Nat} {v5 : Int32} {K : Nat → Nat → Nat → Nat → Nat → Int32 → Int32 → Int32 → Mem → Option ((Mem) ⊕ ((Mem) ⊕ (Mem)))} {q : (Mem) ⊕ ((Mem) ⊕ (Mem))} (hK : ∀ (v6 : Int32) (v7 : Int32) (M : Mem), K v0 v1 v2 v3 v4 v5 v6 v7 M = some q → ZM G X 6 [(0, .ref v0), (1, .ref v1), (2, .ref v2), (3, .ref v3), (4, .ref v4), (5, .int v5), (6, .int v6), (7, .int v7)] [] M 0 0) (hr : ∀ r : Mem, q = .inl r → EnM G X none none r 0 0) (hx0 : ∀ y : Mem, q = (.inr (.inl y)) → ZM G X 77 [] [] y 0 0) (hx1 : ∀ y : Mem, q = (.inr (.inr y)) → ZM G X 132 [] [] y 0 0) {v6 : Int32} {v7 : Int32} {M : Mem} (h : BU_readItems_6 K v0 v1 v2 v3 v4 v5 v6 v7 M = some q) : ZM G X 6 [(0, .ref v0), (1, .ref v1), (2, .ref v2), (3, .ref v3), (4, .ref v4), (5, .int v5), (6, .int v6), (7, .int v7)] [] M 0 0 := by
  unfold BU_readItems_6 at h
  refine zz_iload C 7 ddU_readItems_6 rfl ?_
  refine zz_aload_n C 1 ddU_readItems_8 rfl rfl ?_
  obtain ⟨h2, h⟩ := gdN h
  obtain ⟨q1, hq1, h⟩ := bindN h
  refine zz_callJ0 (As := []) C ddU_readItems_9 wd_387 my_J_length mv_J_length rfl (xJ_length hG (d - 1) (by omega) hq1) (by omega) h2 rfl rfl (Nat.le_of_ble_eq_true rfl) ?_
  refine zz_icmp_gt (tgt := 132) C ddU_readItems_12 rfl (fun hc => ?_) (fun hc => ?_)
  · replace h := iteT h hc
    refine zz_loc (L1 := []) [] rfl ?_
    exact hx1 _ (Option.some.inj h).symm
  · replace h := iteF h hc
    refine zz_aload_n C 0 ddU_readItems_15 rfl rfl ?_
    obtain ⟨h4, h⟩ := gdN h
    obtain ⟨q3, hq3, h⟩ := bindN h
    refine zz_callV0 (As := []) C ddU_readItems_16 wd_367 my_R_isWrong mv_R_isWrong ⟨_, rfl, rfl⟩ (xR_isWrong hG (d - 1) (by omega) hq3) (by omega) h4 rfl rfl (Nat.le_of_ble_eq_true rfl) ?_
    refine zz_if_ne (tgt := 132) C ddU_readItems_19 rfl (fun hc => ?_) (fun hc => ?_)
    · replace h := iteF h hc
      refine zz_loc (L1 := []) [] rfl ?_
      exact hx1 _ (Option.some.inj h).symm
    · replace h := iteT h hc
      refine zz_aload_n C 0 ddU_readItems_22 rfl rfl ?_
      obtain ⟨h6, h⟩ := gdN h
      obtain ⟨q5, hq5, h⟩ := bindN h
      refine zz_callV0 (As := []) C ddU_readItems_23 wd_371 my_R_peek mv_R_peek ⟨_, rfl, rfl⟩ (xR_peek hG (d - 1) (by omega) hq5) (by omega) h6 rfl rfl (Nat.le_of_ble_eq_true rfl) ?_
      refine zz_istore (L1 := [(8, .int q5.1), (0, .ref v0), (1, .ref v1), (2, .ref v2), (3, .ref v3), (4, .ref v4), (5, .int v5), (6, .int v6), (7, .int v7)]) C ddU_readItems_26 N (by decide) rfl ?_
      refine zz_iload C 0 ddU_readItems_28 rfl ?_
      refine zz_iconst (v := (-1)) C ddU_readItems_30 (by decide) ?_
      refine zz_icmp_ne (tgt := 38) C ddU_readItems_31 rfl (fun hc => ?_) (fun hc => ?_)
      · replace h := iteF h hc
        refine zz_aload_n C 2 ddU_readItems_38 rfl rfl ?_
        refine zz_iload C 0 ddU_readItems_39 rfl ?_
        refine zz_i2c C ddU_readItems_41 ?_
        obtain ⟨h8, h⟩ := gdN h
        obtain ⟨q7, hq7, h⟩ := bindN h
        refine zz_callJ0 (As := [.int ((Int32.toUInt32 q5.1 % 65536).toInt32)]) C ddU_readItems_42 wd_397 my_J_indexOf mv_J_indexOf rfl (xJ_indexOf hG (d - 1) (by omega) hq7) (by omega) h8 rfl rfl (Nat.le_of_ble_eq_true rfl) ?_
        refine zz_loc (L1 := [(0, .ref v0), (1, .ref v1), (2, .ref v2), (3, .ref v3), (4, .ref v4), (5, .int v5), (6, .int v6), (7, .int v7)]) [1, 2, 3, 4, 5, 6, 7, 8] rfl ?_
        exact zBU_readItems_45 hG C N hD hd hK hr hx0 hx1 h
      · replace h := iteT h hc
        refine zz_iconst (v := (-1)) C ddU_readItems_34 (by decide) ?_
        refine zz_goto (tgt := 45) C ddU_readItems_35 rfl ?_
        refine zz_loc (L1 := [(0, .ref v0), (1, .ref v1), (2, .ref v2), (3, .ref v3), (4, .ref v4), (5, .int v5), (6, .int v6), (7, .int v7)]) [1, 2, 3, 4, 5, 6, 7, 8] rfl ?_
        exact zBU_readItems_45 hG C N hD hd hK hr hx0 hx1 h
set_option maxHeartbeats 2000000 in
theorem zLU_readItems_6 {G : GXM} {X : CxM} (hG : GokM G) (C : CoM G X cU_readItems "HomeFreed$Rules") (N : mLM X = 10) {d : Nat} (hD : dpM X = d) (hd : 4 ≤ d) {v0 : Nat} {v1 : Nat} {v2 : Nat} {v3 : Nat} {v4 : Nat} {v5 : Int32} {q : (Mem) ⊕ ((Mem) ⊕ (Mem))} : ∀ (f : Nat) (v6 : Int32) (v7 : Int32) (M : Mem), LU_readItems_6 f v0 v1 v2 v3 v4 v5 v6 v7 M = some q → (hr : ∀ r : Mem, q = .inl r → EnM G X none none r 0 0) → (hx0 : ∀ y : Mem, q = (.inr (.inl y)) → ZM G X 77 [] [] y 0 0) → (hx1 : ∀ y : Mem, q = (.inr (.inr y)) → ZM G X 132 [] [] y 0 0) → ZM G X 6 [(0, .ref v0), (1, .ref v1), (2, .ref v2), (3, .ref v3), (4, .ref v4), (5, .int v5), (6, .int v6), (7, .int v7)] [] M 0 0 := by
  intro f
  induction f with
  | zero => intro v6 v7 M h; cases h
  | succ f ih =>
    intro v6 v7 M h hr hx0 hx1
    exact zBU_readItems_6 hG C N hD hd (K := LU_readItems_6 f) (q := q) (fun v6 v7 M h => ih v6 v7 M h hr hx0 hx1) hr hx0 hx1 h
set_option maxHeartbeats 2000000 in
theorem xU_readItems {G : GXM} {l : Launch} (hG : GokM G) (d : Nat) (hd : 4 ≤ d) {v0 : Nat} {v1 : Nat} {v2 : Nat} {v3 : Nat} {v4 : Nat} {v5 : Int32} {M : Mem} {q : Mem} (h : fU_readItems v0 v1 v2 v3 v4 v5 M = some q) : ExM G l d 0 0 yU_readItems cU_readItems 10 none [.ref v0, .ref v1, .ref v2, .ref v3, .ref v4, .int v5] M none q := by
  refine ex_of hG (by decide +kernel) (Nat.le_of_ble_eq_true rfl) ?_
  intro X hl C E N hD hn
  show ZM G X 0 [(0, .ref v0), (1, .ref v1), (2, .ref v2), (3, .ref v3), (4, .ref v4), (5, .int v5)] [] M 0 0
  unfold fU_readItems at h
  refine zz_iconst (v := 0) C ddU_readItems_0 (by decide) ?_
  refine zz_istore (L1 := [(6, .int 0), (0, .ref v0), (1, .ref v1), (2, .ref v2), (3, .ref v3), (4, .ref v4), (5, .int v5)]) C ddU_readItems_1 N (by decide) rfl ?_
  refine zz_iconst (v := 0) C ddU_readItems_3 (by decide) ?_
  refine zz_istore (L1 := [(7, .int 0), (6, .int 0), (0, .ref v0), (1, .ref v1), (2, .ref v2), (3, .ref v3), (4, .ref v4), (5, .int v5)]) C ddU_readItems_4 N (by decide) rfl ?_
  refine zz_loc (L1 := [(0, .ref v0), (1, .ref v1), (2, .ref v2), (3, .ref v3), (4, .ref v4), (5, .int v5), (6, .int 0), (7, .int 0)]) [2, 3, 4, 5, 6, 7, 1, 0] rfl ?_
  obtain ⟨q1, hq1, h⟩ := bindN h
  refine zLU_readItems_6 hG C N hD hd 1000000 _ _ _ hq1 ?_ ?_ ?_
  · intro r2 eq1; replace eq1 := eq1.symm; subst eq1
    obtain rfl := Option.some.inj h
    exact E
  · intro y3 eq1; replace eq1 := eq1.symm; subst eq1
    exact zBU_readItems_77 hG C N hD hd E h
  · intro y4 eq1; replace eq1 := eq1.symm; subst eq1
    exact zBU_readItems_132 hG C N hD hd E h
theorem ddR_expect_0 : decode cR_expect 0 = .ok (.aload_n 0, 1) := by decide +kernel
theorem ddR_expect_1 : decode cR_expect 1 = .ok (.invokevirtual 31, 3) := by decide +kernel
theorem ddR_expect_4 : decode cR_expect 4 = .ok (.iload_n 1, 1) := by decide +kernel
theorem ddR_expect_5 : decode cR_expect 5 = .ok (.if_icmp .ne 10, 3) := by decide +kernel
theorem ddR_expect_8 : decode cR_expect 8 = .ok (.aload_n 0, 1) := by decide +kernel
theorem ddR_expect_9 : decode cR_expect 9 = .ok (.invokevirtual 35, 3) := by decide +kernel
theorem ddR_expect_12 : decode cR_expect 12 = .ok (.goto 7, 3) := by decide +kernel
theorem ddR_expect_15 : decode cR_expect 15 = .ok (.aload_n 0, 1) := by decide +kernel
theorem ddR_expect_16 : decode cR_expect 16 = .ok (.invokevirtual 38, 3) := by decide +kernel
theorem ddR_expect_19 : decode cR_expect 19 = .ok (.return_, 1) := by decide +kernel
set_option maxHeartbeats 2000000 in
theorem zBR_expect_19 {G : GXM} {X : CxM} (hG : GokM G) (C : CoM G X cR_expect "HomeFreed$Reader") (N : mLM X = 2) {d : Nat} (hD : dpM X = d) (hd : 1 ≤ d)  {q : Mem} (E : EnM G X none none q 0 0) {M : Mem} (h : BR_expect_19 M = some q) : ZM G X 19 [] [] M 0 0 := by
  unfold BR_expect_19 at h
  obtain rfl := Option.some.inj h
  exact zz_vret C E ddR_expect_19
set_option maxHeartbeats 2000000 in
theorem xR_expect {G : GXM} {l : Launch} (hG : GokM G) (d : Nat) (hd : 1 ≤ d) {v0 : Nat} {v1 : Int32} {M : Mem} {q : Mem} (h : fR_expect v0 v1 M = some q) : ExM G l d 0 0 yR_expect cR_expect 2 none [.ref v0, .int v1] M none q := by
  refine ex_of hG (by decide +kernel) (Nat.le_of_ble_eq_true rfl) ?_
  intro X hl C E N hD hn
  show ZM G X 0 [(0, .ref v0), (1, .int v1)] [] M 0 0
  unfold fR_expect at h
  refine zz_aload_n C 0 ddR_expect_0 rfl rfl ?_
  obtain ⟨h2, h⟩ := gdN h
  obtain ⟨q1, hq1, h⟩ := bindN h
  refine zz_callV0 (As := []) C ddR_expect_1 wd_486 my_R_peek mv_R_peek ⟨_, rfl, rfl⟩ (xR_peek hG (d - 1) (by omega) hq1) (by omega) h2 rfl rfl (Nat.le_of_ble_eq_true rfl) ?_
  refine zz_iload_n C 1 ddR_expect_4 rfl rfl ?_
  refine zz_icmp_ne (tgt := 15) C ddR_expect_5 rfl (fun hc => ?_) (fun hc => ?_)
  · replace h := iteF h hc
    refine zz_aload_n C 0 ddR_expect_15 rfl rfl ?_
    obtain ⟨h4, h⟩ := gdN h
    obtain ⟨q3, hq3, h⟩ := bindN h
    refine zz_callV0 (As := []) C ddR_expect_16 wd_490 my_R_mark mv_R_mark ⟨_, rfl, rfl⟩ (xR_mark hG (d - 1) (by omega) hq3) (by omega) h4 rfl rfl (Nat.le_of_ble_eq_true rfl) ?_
    refine zz_loc (L1 := []) [] rfl ?_
    exact zBR_expect_19 hG C N hD hd E h
  · replace h := iteT h hc
    refine zz_aload_n C 0 ddR_expect_8 rfl rfl ?_
    obtain ⟨h6, h⟩ := gdN h
    obtain ⟨q5, hq5, h⟩ := bindN h
    refine zz_callV0 (As := []) C ddR_expect_9 wd_491 my_R_pass mv_R_pass ⟨_, rfl, rfl⟩ (xR_pass hG (d - 1) (by omega) hq5) (by omega) h6 rfl rfl (Nat.le_of_ble_eq_true rfl) ?_
    refine zz_goto (tgt := 19) C ddR_expect_12 rfl ?_
    refine zz_loc (L1 := []) [] rfl ?_
    exact zBR_expect_19 hG C N hD hd E h
theorem ddU_sizesFit_0 : decode cU_sizesFit 0 = .ok (.iconst 1, 1) := by decide +kernel
theorem ddU_sizesFit_1 : decode cU_sizesFit 1 = .ok (.istore_n 1, 1) := by decide +kernel
theorem ddU_sizesFit_2 : decode cU_sizesFit 2 = .ok (.iload_n 1, 1) := by decide +kernel
theorem ddU_sizesFit_3 : decode cU_sizesFit 3 = .ok (.aload_n 0, 1) := by decide +kernel
theorem ddU_sizesFit_4 : decode cU_sizesFit 4 = .ok (.getfield 18, 3) := by decide +kernel
theorem ddU_sizesFit_7 : decode cU_sizesFit 7 = .ok (.if_icmp .ge 28, 3) := by decide +kernel
theorem ddU_sizesFit_10 : decode cU_sizesFit 10 = .ok (.aload_n 0, 1) := by decide +kernel
theorem ddU_sizesFit_11 : decode cU_sizesFit 11 = .ok (.getfield 15, 3) := by decide +kernel
theorem ddU_sizesFit_14 : decode cU_sizesFit 14 = .ok (.iload_n 1, 1) := by decide +kernel
theorem ddU_sizesFit_15 : decode cU_sizesFit 15 = .ok (.iaload, 1) := by decide +kernel
theorem ddU_sizesFit_16 : decode cU_sizesFit 16 = .ok (.aload_n 0, 1) := by decide +kernel
theorem ddU_sizesFit_17 : decode cU_sizesFit 17 = .ok (.getfield 15, 3) := by decide +kernel
theorem ddU_sizesFit_20 : decode cU_sizesFit 20 = .ok (.iload_n 1, 1) := by decide +kernel
theorem ddU_sizesFit_21 : decode cU_sizesFit 21 = .ok (.iconst 1, 1) := by decide +kernel
theorem ddU_sizesFit_22 : decode cU_sizesFit 22 = .ok (.isub, 1) := by decide +kernel
theorem ddU_sizesFit_23 : decode cU_sizesFit 23 = .ok (.iaload, 1) := by decide +kernel
theorem ddU_sizesFit_24 : decode cU_sizesFit 24 = .ok (.if_icmp .gt 5, 3) := by decide +kernel
theorem ddU_sizesFit_27 : decode cU_sizesFit 27 = .ok (.iconst 0, 1) := by decide +kernel
theorem ddU_sizesFit_28 : decode cU_sizesFit 28 = .ok (.ireturn, 1) := by decide +kernel
theorem ddU_sizesFit_29 : decode cU_sizesFit 29 = .ok (.iinc 1 1, 3) := by decide +kernel
theorem ddU_sizesFit_32 : decode cU_sizesFit 32 = .ok (.goto (-30), 3) := by decide +kernel
theorem ddU_sizesFit_35 : decode cU_sizesFit 35 = .ok (.aload_n 0, 1) := by decide +kernel
theorem ddU_sizesFit_36 : decode cU_sizesFit 36 = .ok (.getfield 18, 3) := by decide +kernel
theorem ddU_sizesFit_39 : decode cU_sizesFit 39 = .ok (.ifCond .le 27, 3) := by decide +kernel
theorem ddU_sizesFit_42 : decode cU_sizesFit 42 = .ok (.aload_n 0, 1) := by decide +kernel
theorem ddU_sizesFit_43 : decode cU_sizesFit 43 = .ok (.getfield 15, 3) := by decide +kernel
theorem ddU_sizesFit_46 : decode cU_sizesFit 46 = .ok (.aload_n 0, 1) := by decide +kernel
theorem ddU_sizesFit_47 : decode cU_sizesFit 47 = .ok (.getfield 18, 3) := by decide +kernel
theorem ddU_sizesFit_50 : decode cU_sizesFit 50 = .ok (.iconst 1, 1) := by decide +kernel
theorem ddU_sizesFit_51 : decode cU_sizesFit 51 = .ok (.isub, 1) := by decide +kernel
theorem ddU_sizesFit_52 : decode cU_sizesFit 52 = .ok (.iaload, 1) := by decide +kernel
theorem ddU_sizesFit_53 : decode cU_sizesFit 53 = .ok (.aload_n 0, 1) := by decide +kernel
theorem ddU_sizesFit_54 : decode cU_sizesFit 54 = .ok (.getfield 9, 3) := by decide +kernel
theorem ddU_sizesFit_57 : decode cU_sizesFit 57 = .ok (.iconst 2, 1) := by decide +kernel
theorem ddU_sizesFit_58 : decode cU_sizesFit 58 = .ok (.iaload, 1) := by decide +kernel
theorem ddU_sizesFit_59 : decode cU_sizesFit 59 = .ok (.if_icmp .gt 7, 3) := by decide +kernel
theorem ddU_sizesFit_62 : decode cU_sizesFit 62 = .ok (.iconst 1, 1) := by decide +kernel
theorem ddU_sizesFit_63 : decode cU_sizesFit 63 = .ok (.goto 4, 3) := by decide +kernel
theorem ddU_sizesFit_66 : decode cU_sizesFit 66 = .ok (.iconst 0, 1) := by decide +kernel
theorem ddU_sizesFit_67 : decode cU_sizesFit 67 = .ok (.ireturn, 1) := by decide +kernel
set_option maxHeartbeats 2000000 in
theorem zBU_sizesFit_67 {G : GXM} {X : CxM} (hG : GokM G) (C : CoM G X cU_sizesFit "HomeFreed$Rules") (N : mLM X = 2) {d : Nat} (hD : dpM X = d) (hd : 0 ≤ d)  {q : Int32 × Mem} (E : EnM G X (some .boolean) (some (.int q.1)) q.2 0 0) {w0 : Int32} {M : Mem} (h : BU_sizesFit_67 w0 M = some q) : ZM G X 67 [] [.int w0] M 0 0 := by
  unfold BU_sizesFit_67 at h
  obtain ⟨h1, h⟩ := gdN h
  obtain rfl := Option.some.inj h
  exact zz_zret C (of_decide_eq_true h1) E ddU_sizesFit_67
set_option maxHeartbeats 2000000 in
theorem zBU_sizesFit_66 {G : GXM} {X : CxM} (hG : GokM G) (C : CoM G X cU_sizesFit "HomeFreed$Rules") (N : mLM X = 2) {d : Nat} (hD : dpM X = d) (hd : 0 ≤ d)  {q : Int32 × Mem} (E : EnM G X (some .boolean) (some (.int q.1)) q.2 0 0) {M : Mem} (h : BU_sizesFit_66 M = some q) : ZM G X 66 [] [] M 0 0 := by
  unfold BU_sizesFit_66 at h
  refine zz_iconst (v := 0) C ddU_sizesFit_66 (by decide) ?_
  exact zBU_sizesFit_67 hG C N hD hd E h
set_option maxHeartbeats 2000000 in
theorem zBU_sizesFit_2 {G : GXM} {X : CxM} (hG : GokM G) (C : CoM G X cU_sizesFit "HomeFreed$Rules") (N : mLM X = 2) {d : Nat} (hD : dpM X = d) (hd : 0 ≤ d) {v0 : Nat} {K : Nat → Int32 → Mem → Option ((Int32 × Mem) ⊕ (Mem))} {q : (Int32 × Mem) ⊕ (Mem)} (hK : ∀ (v1 : Int32) (M : Mem), K v0 v1 M = some q → ZM G X 2 [(0, .ref v0), (1, .int v1)] [] M 0 0) (hr : ∀ r : Int32 × Mem, q = .inl r → EnM G X (some .boolean) (some (.int r.1)) r.2 0 0) (hx0 : ∀ y : Mem, q = (.inr y) → ZM G X 35 [(0, .ref v0)] [] y 0 0) {v1 : Int32} {M : Mem} (h : BU_sizesFit_2 K v0 v1 M = some q) : ZM G X 2 [(0, .ref v0), (1, .int v1)] [] M 0 0 := by
  unfold BU_sizesFit_2 at h
  refine zz_iload_n C 1 ddU_sizesFit_2 rfl rfl ?_
  refine zz_aload_n C 0 ddU_sizesFit_3 rfl rfl ?_
  obtain ⟨h1, h⟩ := gdN h
  refine zz_geti C ddU_sizesFit_4 fl_U_18 rfl h1 ?_
  refine zz_icmp_ge (tgt := 35) C ddU_sizesFit_7 rfl (fun hc => ?_) (fun hc => ?_)
  · replace h := iteT h hc
    refine zz_loc (L1 := [(0, .ref v0)]) [0] rfl ?_
    exact hx0 _ (Option.some.inj h).symm
  · replace h := iteF h hc
    refine zz_aload_n C 0 ddU_sizesFit_10 rfl rfl ?_
    obtain ⟨h2, h⟩ := gdN h
    refine zz_getr C ddU_sizesFit_11 fl_U_15 rfl h1 (of_decide_eq_true h2) ?_
    refine zz_iload_n C 1 ddU_sizesFit_14 rfl rfl ?_
    obtain ⟨h3, h⟩ := gdN h
    refine zz_iaload C ddU_sizesFit_15 h3 ?_
    refine zz_aload_n C 0 ddU_sizesFit_16 rfl rfl ?_
    refine zz_getr C ddU_sizesFit_17 fl_U_15 rfl h1 (of_decide_eq_true h2) ?_
    refine zz_iload_n C 1 ddU_sizesFit_20 rfl rfl ?_
    refine zz_iconst (v := 1) C ddU_sizesFit_21 (by decide) ?_
    refine zz_isub C ddU_sizesFit_22 ?_
    obtain ⟨h4, h⟩ := gdN h
    refine zz_iaload C ddU_sizesFit_23 h4 ?_
    refine zz_icmp_gt (tgt := 29) C ddU_sizesFit_24 rfl (fun hc => ?_) (fun hc => ?_)
    · replace h := iteT h hc
      refine zz_iinc (v := v1 + 1) (L1 := [(1, .int (v1 + 1)), (0, .ref v0)]) C 1 ddU_sizesFit_29 rfl rfl N (by decide) rfl ?_
      refine zz_goto (tgt := 2) C ddU_sizesFit_32 rfl ?_
      refine zz_loc (L1 := [(0, .ref v0), (1, .int (v1 + 1))]) [1, 0] rfl ?_
      exact hK _ _ h
    · replace h := iteF h hc
      refine zz_iconst (v := 0) C ddU_sizesFit_27 (by decide) ?_
      exact zz_zret C (by decide) (hr _ (Option.some.inj h).symm) ddU_sizesFit_28
set_option maxHeartbeats 2000000 in
theorem zLU_sizesFit_2 {G : GXM} {X : CxM} (hG : GokM G) (C : CoM G X cU_sizesFit "HomeFreed$Rules") (N : mLM X = 2) {d : Nat} (hD : dpM X = d) (hd : 0 ≤ d) {v0 : Nat} {q : (Int32 × Mem) ⊕ (Mem)} : ∀ (f : Nat) (v1 : Int32) (M : Mem), LU_sizesFit_2 f v0 v1 M = some q → (hr : ∀ r : Int32 × Mem, q = .inl r → EnM G X (some .boolean) (some (.int r.1)) r.2 0 0) → (hx0 : ∀ y : Mem, q = (.inr y) → ZM G X 35 [(0, .ref v0)] [] y 0 0) → ZM G X 2 [(0, .ref v0), (1, .int v1)] [] M 0 0 := by
  intro f
  induction f with
  | zero => intro v1 M h; cases h
  | succ f ih =>
    intro v1 M h hr hx0
    exact zBU_sizesFit_2 hG C N hD hd (K := LU_sizesFit_2 f) (q := q) (fun v1 M h => ih v1 M h hr hx0) hr hx0 h
set_option maxHeartbeats 2000000 in
theorem xU_sizesFit {G : GXM} {l : Launch} (hG : GokM G) (d : Nat) (hd : 0 ≤ d) {v0 : Nat} {M : Mem} {q : Int32 × Mem} (h : fU_sizesFit v0 M = some q) : ExM G l d 0 0 yU_sizesFit cU_sizesFit 2 (some .boolean) [.ref v0] M (some (.int q.1)) q.2 := by
  refine ex_of hG (by decide +kernel) (Nat.le_of_ble_eq_true rfl) ?_
  intro X hl C E N hD hn
  show ZM G X 0 [(0, .ref v0)] [] M 0 0
  unfold fU_sizesFit at h
  refine zz_iconst (v := 1) C ddU_sizesFit_0 (by decide) ?_
  refine zz_istore_n (L1 := [(1, .int 1), (0, .ref v0)]) C ddU_sizesFit_1 rfl N (by decide) rfl ?_
  refine zz_loc (L1 := [(0, .ref v0), (1, .int 1)]) [1, 0] rfl ?_
  obtain ⟨q1, hq1, h⟩ := bindN h
  refine zLU_sizesFit_2 hG C N hD hd 1000000 _ _ hq1 ?_ ?_
  · intro r2 eq1; replace eq1 := eq1.symm; subst eq1
    obtain rfl := Option.some.inj h
    exact E
  · intro y3 eq1; replace eq1 := eq1.symm; subst eq1
    refine zz_aload_n C 0 ddU_sizesFit_35 rfl rfl ?_
    obtain ⟨h4, h⟩ := gdN h
    refine zz_geti C ddU_sizesFit_36 fl_U_18 rfl h4 ?_
    refine zz_if_le (tgt := 66) C ddU_sizesFit_39 rfl (fun hc => ?_) (fun hc => ?_)
    · replace h := iteT h hc
      refine zz_loc (L1 := []) [] rfl ?_
      exact zBU_sizesFit_66 hG C N hD hd E h
    · replace h := iteF h hc
      refine zz_aload_n C 0 ddU_sizesFit_42 rfl rfl ?_
      obtain ⟨h5, h⟩ := gdN h
      refine zz_getr C ddU_sizesFit_43 fl_U_15 rfl h4 (of_decide_eq_true h5) ?_
      refine zz_aload_n C 0 ddU_sizesFit_46 rfl rfl ?_
      refine zz_geti C ddU_sizesFit_47 fl_U_18 rfl h4 ?_
      refine zz_iconst (v := 1) C ddU_sizesFit_50 (by decide) ?_
      refine zz_isub C ddU_sizesFit_51 ?_
      obtain ⟨h6, h⟩ := gdN h
      refine zz_iaload C ddU_sizesFit_52 h6 ?_
      refine zz_aload_n C 0 ddU_sizesFit_53 rfl rfl ?_
      obtain ⟨h7, h⟩ := gdN h
      refine zz_getr C ddU_sizesFit_54 fl_U_9 rfl h4 (of_decide_eq_true h7) ?_
      refine zz_iconst (v := 2) C ddU_sizesFit_57 (by decide) ?_
      obtain ⟨h8, h⟩ := gdN h
      refine zz_iaload C ddU_sizesFit_58 h8 ?_
      refine zz_icmp_gt (tgt := 66) C ddU_sizesFit_59 rfl (fun hc => ?_) (fun hc => ?_)
      · replace h := iteT h hc
        refine zz_loc (L1 := []) [] rfl ?_
        exact zBU_sizesFit_66 hG C N hD hd E h
      · replace h := iteF h hc
        refine zz_iconst (v := 1) C ddU_sizesFit_62 (by decide) ?_
        refine zz_goto (tgt := 67) C ddU_sizesFit_63 rfl ?_
        refine zz_loc (L1 := []) [] rfl ?_
        exact zBU_sizesFit_67 hG C N hD hd E h
theorem ddU_readFrom_0 : decode cU_readFrom 0 = .ok (.getstatic 28, 3) := by decide +kernel
theorem ddU_readFrom_3 : decode cU_readFrom 3 = .ok (.iconst 0, 1) := by decide +kernel
theorem ddU_readFrom_4 : decode cU_readFrom 4 = .ok (.aload_n 0, 1) := by decide +kernel
theorem ddU_readFrom_5 : decode cU_readFrom 5 = .ok (.getfield 9, 3) := by decide +kernel
theorem ddU_readFrom_8 : decode cU_readFrom 8 = .ok (.iconst 0, 1) := by decide +kernel
theorem ddU_readFrom_9 : decode cU_readFrom 9 = .ok (.aload_n 0, 1) := by decide +kernel
theorem ddU_readFrom_10 : decode cU_readFrom 10 = .ok (.getfield 9, 3) := by decide +kernel
theorem ddU_readFrom_13 : decode cU_readFrom 13 = .ok (.arraylength, 1) := by decide +kernel
theorem ddU_readFrom_14 : decode cU_readFrom 14 = .ok (.invokestatic 22, 3) := by decide +kernel
theorem ddU_readFrom_17 : decode cU_readFrom 17 = .ok (.aload_n 0, 1) := by decide +kernel
theorem ddU_readFrom_18 : decode cU_readFrom 18 = .ok (.iconst 0, 1) := by decide +kernel
theorem ddU_readFrom_19 : decode cU_readFrom 19 = .ok (.putfield 18, 3) := by decide +kernel
theorem ddU_readFrom_22 : decode cU_readFrom 22 = .ok (.aload_n 1, 1) := by decide +kernel
theorem ddU_readFrom_23 : decode cU_readFrom 23 = .ok (.invokevirtual 31, 3) := by decide +kernel
theorem ddU_readFrom_26 : decode cU_readFrom 26 = .ok (.iconst 0, 1) := by decide +kernel
theorem ddU_readFrom_27 : decode cU_readFrom 27 = .ok (.istore_n 2, 1) := by decide +kernel
theorem ddU_readFrom_28 : decode cU_readFrom 28 = .ok (.iconst 0, 1) := by decide +kernel
theorem ddU_readFrom_29 : decode cU_readFrom 29 = .ok (.istore_n 3, 1) := by decide +kernel
theorem ddU_readFrom_30 : decode cU_readFrom 30 = .ok (.iload_n 3, 1) := by decide +kernel
theorem ddU_readFrom_31 : decode cU_readFrom 31 = .ok (.sipush 240, 3) := by decide +kernel
theorem ddU_readFrom_34 : decode cU_readFrom 34 = .ok (.if_icmp .ge 152, 3) := by decide +kernel
theorem ddU_readFrom_37 : decode cU_readFrom 37 = .ok (.aload_n 1, 1) := by decide +kernel
theorem ddU_readFrom_38 : decode cU_readFrom 38 = .ok (.invokevirtual 36, 3) := by decide +kernel
theorem ddU_readFrom_41 : decode cU_readFrom 41 = .ok (.ifCond .ne 145, 3) := by decide +kernel
theorem ddU_readFrom_44 : decode cU_readFrom 44 = .ok (.aload_n 1, 1) := by decide +kernel
theorem ddU_readFrom_45 : decode cU_readFrom 45 = .ok (.invokevirtual 40, 3) := by decide +kernel
theorem ddU_readFrom_48 : decode cU_readFrom 48 = .ok (.istore 4, 2) := by decide +kernel
theorem ddU_readFrom_50 : decode cU_readFrom 50 = .ok (.iload 4, 2) := by decide +kernel
theorem ddU_readFrom_52 : decode cU_readFrom 52 = .ok (.bipush 115, 2) := by decide +kernel
theorem ddU_readFrom_54 : decode cU_readFrom 54 = .ok (.if_icmp .ne 33, 3) := by decide +kernel
theorem ddU_readFrom_57 : decode cU_readFrom 57 = .ok (.iload_n 2, 1) := by decide +kernel
theorem ddU_readFrom_58 : decode cU_readFrom 58 = .ok (.ifCond .ne 29, 3) := by decide +kernel
theorem ddU_readFrom_61 : decode cU_readFrom 61 = .ok (.iconst 1, 1) := by decide +kernel
theorem ddU_readFrom_62 : decode cU_readFrom 62 = .ok (.istore_n 2, 1) := by decide +kernel
theorem ddU_readFrom_63 : decode cU_readFrom 63 = .ok (.aload_n 1, 1) := by decide +kernel
theorem ddU_readFrom_64 : decode cU_readFrom 64 = .ok (.invokevirtual 44, 3) := by decide +kernel
theorem ddU_readFrom_67 : decode cU_readFrom 67 = .ok (.aload_n 1, 1) := by decide +kernel
theorem ddU_readFrom_68 : decode cU_readFrom 68 = .ok (.ldc 47, 2) := by decide +kernel
theorem ddU_readFrom_70 : decode cU_readFrom 70 = .ok (.getstatic 49, 3) := by decide +kernel
theorem ddU_readFrom_73 : decode cU_readFrom 73 = .ok (.getstatic 52, 3) := by decide +kernel
theorem ddU_readFrom_76 : decode cU_readFrom 76 = .ok (.aload_n 0, 1) := by decide +kernel
theorem ddU_readFrom_77 : decode cU_readFrom 77 = .ok (.getfield 9, 3) := by decide +kernel
theorem ddU_readFrom_80 : decode cU_readFrom 80 = .ok (.iconst 0, 1) := by decide +kernel
theorem ddU_readFrom_81 : decode cU_readFrom 81 = .ok (.invokestatic 55, 3) := by decide +kernel
theorem ddU_readFrom_84 : decode cU_readFrom 84 = .ok (.goto 72, 3) := by decide +kernel
theorem ddU_readFrom_87 : decode cU_readFrom 87 = .ok (.iload 4, 2) := by decide +kernel
theorem ddU_readFrom_89 : decode cU_readFrom 89 = .ok (.bipush 99, 2) := by decide +kernel
theorem ddU_readFrom_91 : decode cU_readFrom 91 = .ok (.if_icmp .ne 61, 3) := by decide +kernel
theorem ddU_readFrom_94 : decode cU_readFrom 94 = .ok (.aload_n 0, 1) := by decide +kernel
theorem ddU_readFrom_95 : decode cU_readFrom 95 = .ok (.getfield 18, 3) := by decide +kernel
theorem ddU_readFrom_98 : decode cU_readFrom 98 = .ok (.bipush 6, 2) := by decide +kernel
theorem ddU_readFrom_100 : decode cU_readFrom 100 = .ok (.if_icmp .ge 52, 3) := by decide +kernel
theorem ddU_readFrom_103 : decode cU_readFrom 103 = .ok (.aload_n 1, 1) := by decide +kernel
theorem ddU_readFrom_104 : decode cU_readFrom 104 = .ok (.invokevirtual 44, 3) := by decide +kernel
theorem ddU_readFrom_107 : decode cU_readFrom 107 = .ok (.aload_n 0, 1) := by decide +kernel
theorem ddU_readFrom_108 : decode cU_readFrom 108 = .ok (.getfield 15, 3) := by decide +kernel
theorem ddU_readFrom_111 : decode cU_readFrom 111 = .ok (.aload_n 0, 1) := by decide +kernel
theorem ddU_readFrom_112 : decode cU_readFrom 112 = .ok (.getfield 18, 3) := by decide +kernel
theorem ddU_readFrom_115 : decode cU_readFrom 115 = .ok (.iconst 1, 1) := by decide +kernel
theorem ddU_readFrom_116 : decode cU_readFrom 116 = .ok (.iastore, 1) := by decide +kernel
theorem ddU_readFrom_117 : decode cU_readFrom 117 = .ok (.aload_n 0, 1) := by decide +kernel
theorem ddU_readFrom_118 : decode cU_readFrom 118 = .ok (.dup, 1) := by decide +kernel
theorem ddU_readFrom_119 : decode cU_readFrom 119 = .ok (.getfield 18, 3) := by decide +kernel
theorem ddU_readFrom_122 : decode cU_readFrom 122 = .ok (.iconst 1, 1) := by decide +kernel
theorem ddU_readFrom_123 : decode cU_readFrom 123 = .ok (.iadd, 1) := by decide +kernel
theorem ddU_readFrom_124 : decode cU_readFrom 124 = .ok (.putfield 18, 3) := by decide +kernel
theorem ddU_readFrom_127 : decode cU_readFrom 127 = .ok (.aload_n 1, 1) := by decide +kernel
theorem ddU_readFrom_128 : decode cU_readFrom 128 = .ok (.ldc 59, 2) := by decide +kernel
theorem ddU_readFrom_130 : decode cU_readFrom 130 = .ok (.getstatic 61, 3) := by decide +kernel
theorem ddU_readFrom_133 : decode cU_readFrom 133 = .ok (.getstatic 64, 3) := by decide +kernel
theorem ddU_readFrom_136 : decode cU_readFrom 136 = .ok (.aload_n 0, 1) := by decide +kernel
theorem ddU_readFrom_137 : decode cU_readFrom 137 = .ok (.getfield 15, 3) := by decide +kernel
theorem ddU_readFrom_140 : decode cU_readFrom 140 = .ok (.aload_n 0, 1) := by decide +kernel
theorem ddU_readFrom_141 : decode cU_readFrom 141 = .ok (.getfield 18, 3) := by decide +kernel
theorem ddU_readFrom_144 : decode cU_readFrom 144 = .ok (.iconst 1, 1) := by decide +kernel
theorem ddU_readFrom_145 : decode cU_readFrom 145 = .ok (.isub, 1) := by decide +kernel
theorem ddU_readFrom_146 : decode cU_readFrom 146 = .ok (.invokestatic 55, 3) := by decide +kernel
theorem ddU_readFrom_149 : decode cU_readFrom 149 = .ok (.goto 7, 3) := by decide +kernel
theorem ddU_readFrom_152 : decode cU_readFrom 152 = .ok (.aload_n 1, 1) := by decide +kernel
theorem ddU_readFrom_153 : decode cU_readFrom 153 = .ok (.invokevirtual 67, 3) := by decide +kernel
theorem ddU_readFrom_156 : decode cU_readFrom 156 = .ok (.aload_n 1, 1) := by decide +kernel
theorem ddU_readFrom_157 : decode cU_readFrom 157 = .ok (.invokevirtual 36, 3) := by decide +kernel
theorem ddU_readFrom_160 : decode cU_readFrom 160 = .ok (.ifCond .ne 26, 3) := by decide +kernel
theorem ddU_readFrom_163 : decode cU_readFrom 163 = .ok (.aload_n 1, 1) := by decide +kernel
theorem ddU_readFrom_164 : decode cU_readFrom 164 = .ok (.invokevirtual 40, 3) := by decide +kernel
theorem ddU_readFrom_167 : decode cU_readFrom 167 = .ok (.iconst (-1), 1) := by decide +kernel
theorem ddU_readFrom_168 : decode cU_readFrom 168 = .ok (.if_icmp .ne 6, 3) := by decide +kernel
theorem ddU_readFrom_171 : decode cU_readFrom 171 = .ok (.goto 15, 3) := by decide +kernel
theorem ddU_readFrom_174 : decode cU_readFrom 174 = .ok (.aload_n 1, 1) := by decide +kernel
theorem ddU_readFrom_175 : decode cU_readFrom 175 = .ok (.bipush 59, 2) := by decide +kernel
theorem ddU_readFrom_177 : decode cU_readFrom 177 = .ok (.invokevirtual 70, 3) := by decide +kernel
theorem ddU_readFrom_180 : decode cU_readFrom 180 = .ok (.iinc 3 1, 3) := by decide +kernel
theorem ddU_readFrom_183 : decode cU_readFrom 183 = .ok (.goto (-153), 3) := by decide +kernel
theorem ddU_readFrom_186 : decode cU_readFrom 186 = .ok (.aload_n 1, 1) := by decide +kernel
theorem ddU_readFrom_187 : decode cU_readFrom 187 = .ok (.invokevirtual 36, 3) := by decide +kernel
theorem ddU_readFrom_190 : decode cU_readFrom 190 = .ok (.ifCond .ne 14, 3) := by decide +kernel
theorem ddU_readFrom_193 : decode cU_readFrom 193 = .ok (.aload_n 0, 1) := by decide +kernel
theorem ddU_readFrom_194 : decode cU_readFrom 194 = .ok (.invokevirtual 74, 3) := by decide +kernel
theorem ddU_readFrom_197 : decode cU_readFrom 197 = .ok (.ifCond .ne 7, 3) := by decide +kernel
theorem ddU_readFrom_200 : decode cU_readFrom 200 = .ok (.aload_n 1, 1) := by decide +kernel
theorem ddU_readFrom_201 : decode cU_readFrom 201 = .ok (.invokevirtual 67, 3) := by decide +kernel
theorem ddU_readFrom_204 : decode cU_readFrom 204 = .ok (.aload_n 1, 1) := by decide +kernel
theorem ddU_readFrom_205 : decode cU_readFrom 205 = .ok (.getfield 77, 3) := by decide +kernel
theorem ddU_readFrom_208 : decode cU_readFrom 208 = .ok (.ireturn, 1) := by decide +kernel
set_option maxHeartbeats 2000000 in
theorem zBU_readFrom_204 {G : GXM} {X : CxM} (hG : GokM G) (C : CoM G X cU_readFrom "HomeFreed$Rules") (N : mLM X = 5) {d : Nat} (hD : dpM X = d) (hd : 5 ≤ d)  {q : Int32 × Mem} (E : EnM G X (some .int) (some (.int q.1)) q.2 0 0) {v1 : Nat} {M : Mem} (h : BU_readFrom_204 v1 M = some q) : ZM G X 204 [(1, .ref v1)] [] M 0 0 := by
  unfold BU_readFrom_204 at h
  refine zz_aload_n C 0 ddU_readFrom_204 rfl rfl ?_
  obtain ⟨h1, h⟩ := gdN h
  refine zz_geti C ddU_readFrom_205 fl_U_77 rfl h1 ?_
  obtain rfl := Option.some.inj h
  exact zz_iret C E ddU_readFrom_208
set_option maxHeartbeats 2000000 in
theorem zBU_readFrom_186 {G : GXM} {X : CxM} (hG : GokM G) (C : CoM G X cU_readFrom "HomeFreed$Rules") (N : mLM X = 5) {d : Nat} (hD : dpM X = d) (hd : 5 ≤ d)  {q : Int32 × Mem} (E : EnM G X (some .int) (some (.int q.1)) q.2 0 0) {v0 : Nat} {v1 : Nat} {M : Mem} (h : BU_readFrom_186 v0 v1 M = some q) : ZM G X 186 [(0, .ref v0), (1, .ref v1)] [] M 0 0 := by
  unfold BU_readFrom_186 at h
  refine zz_aload_n C 1 ddU_readFrom_186 rfl rfl ?_
  obtain ⟨h2, h⟩ := gdN h
  obtain ⟨q1, hq1, h⟩ := bindN h
  refine zz_callV0 (As := []) C ddU_readFrom_187 wd_367 my_R_isWrong mv_R_isWrong ⟨_, rfl, rfl⟩ (xR_isWrong hG (d - 1) (by omega) hq1) (by omega) h2 rfl rfl (Nat.le_of_ble_eq_true rfl) ?_
  refine zz_if_ne (tgt := 204) C ddU_readFrom_190 rfl (fun hc => ?_) (fun hc => ?_)
  · replace h := iteF h hc
    refine zz_loc (L1 := [(1, .ref v1)]) [1] rfl ?_
    exact zBU_readFrom_204 hG C N hD hd E h
  · replace h := iteT h hc
    refine zz_aload_n C 0 ddU_readFrom_193 rfl rfl ?_
    obtain ⟨h4, h⟩ := gdN h
    obtain ⟨q3, hq3, h⟩ := bindN h
    refine zz_callV0 (As := []) C ddU_readFrom_194 wd_506 my_U_sizesFit mv_U_sizesFit ⟨_, rfl, rfl⟩ (xU_sizesFit hG (d - 1) (by omega) hq3) (by omega) h4 rfl rfl (Nat.le_of_ble_eq_true rfl) ?_
    refine zz_if_ne (tgt := 204) C ddU_readFrom_197 rfl (fun hc => ?_) (fun hc => ?_)
    · replace h := iteF h hc
      refine zz_loc (L1 := [(1, .ref v1)]) [1] rfl ?_
      exact zBU_readFrom_204 hG C N hD hd E h
    · replace h := iteT h hc
      refine zz_aload_n C 1 ddU_readFrom_200 rfl rfl ?_
      obtain ⟨h6, h⟩ := gdN h
      obtain ⟨q5, hq5, h⟩ := bindN h
      refine zz_callV0 (As := []) C ddU_readFrom_201 wd_474 my_R_mark mv_R_mark ⟨_, rfl, rfl⟩ (xR_mark hG (d - 1) (by omega) hq5) (by omega) h6 rfl rfl (Nat.le_of_ble_eq_true rfl) ?_
      refine zz_loc (L1 := [(1, .ref v1)]) [1] rfl ?_
      exact zBU_readFrom_204 hG C N hD hd E h
set_option maxHeartbeats 2000000 in
theorem zBU_readFrom_156 {G : GXM} {X : CxM} (hG : GokM G) (C : CoM G X cU_readFrom "HomeFreed$Rules") (N : mLM X = 5) {d : Nat} (hD : dpM X = d) (hd : 5 ≤ d) {v0 : Nat} {v1 : Nat} {K : Nat → Nat → Int32 → Int32 → Mem → Option ((Mem) ⊕ (Mem))} {q : (Mem) ⊕ (Mem)} (hK : ∀ (v2 : Int32) (v3 : Int32) (M : Mem), K v0 v1 v2 v3 M = some q → ZM G X 30 [(0, .ref v0), (1, .ref v1), (2, .int v2), (3, .int v3)] [] M 0 0) (hx0 : ∀ y : Mem, q = (.inl y) → ZM G X 171 [(0, .ref v0), (1, .ref v1)] [] y 0 0) (hx1 : ∀ y : Mem, q = (.inr y) → ZM G X 186 [(0, .ref v0), (1, .ref v1)] [] y 0 0) {v2 : Int32} {v3 : Int32} {M : Mem} (h : BU_readFrom_156 K v0 v1 v2 v3 M = some q) : ZM G X 156 [(0, .ref v0), (1, .ref v1), (2, .int v2), (3, .int v3)] [] M 0 0 := by
  unfold BU_readFrom_156 at h
  refine zz_aload_n C 1 ddU_readFrom_156 rfl rfl ?_
  obtain ⟨h2, h⟩ := gdN h
  obtain ⟨q1, hq1, h⟩ := bindN h
  refine zz_callV0 (As := []) C ddU_readFrom_157 wd_367 my_R_isWrong mv_R_isWrong ⟨_, rfl, rfl⟩ (xR_isWrong hG (d - 1) (by omega) hq1) (by omega) h2 rfl rfl (Nat.le_of_ble_eq_true rfl) ?_
  refine zz_if_ne (tgt := 186) C ddU_readFrom_160 rfl (fun hc => ?_) (fun hc => ?_)
  · replace h := iteF h hc
    refine zz_loc (L1 := [(0, .ref v0), (1, .ref v1)]) [0, 1] rfl ?_
    exact hx1 _ (Option.some.inj h).symm
  · replace h := iteT h hc
    refine zz_aload_n C 1 ddU_readFrom_163 rfl rfl ?_
    obtain ⟨h4, h⟩ := gdN h
    obtain ⟨q3, hq3, h⟩ := bindN h
    refine zz_callV0 (As := []) C ddU_readFrom_164 wd_371 my_R_peek mv_R_peek ⟨_, rfl, rfl⟩ (xR_peek hG (d - 1) (by omega) hq3) (by omega) h4 rfl rfl (Nat.le_of_ble_eq_true rfl) ?_
    refine zz_iconst (v := (-1)) C ddU_readFrom_167 (by decide) ?_
    refine zz_icmp_ne (tgt := 174) C ddU_readFrom_168 rfl (fun hc => ?_) (fun hc => ?_)
    · replace h := iteF h hc
      refine zz_aload_n C 1 ddU_readFrom_174 rfl rfl ?_
      refine zz_bipush (v := 59) C ddU_readFrom_175 (by decide) ?_
      obtain ⟨h6, h⟩ := gdN h
      obtain ⟨q5, hq5, h⟩ := bindN h
      refine zz_callV0 (As := [.int 59]) C ddU_readFrom_177 wd_502 my_R_expect mv_R_expect ⟨_, rfl, rfl⟩ (xR_expect hG (d - 1) (by omega) hq5) (by omega) h6 rfl rfl (Nat.le_of_ble_eq_true rfl) ?_
      refine zz_iinc (v := v3 + 1) (L1 := [(3, .int (v3 + 1)), (0, .ref v0), (1, .ref v1), (2, .int v2)]) C 3 ddU_readFrom_180 rfl rfl N (by decide) rfl ?_
      refine zz_goto (tgt := 30) C ddU_readFrom_183 rfl ?_
      refine zz_loc (L1 := [(0, .ref v0), (1, .ref v1), (2, .int v2), (3, .int (v3 + 1))]) [1, 2, 3, 0] rfl ?_
      exact hK _ _ _ h
    · replace h := iteT h hc
      refine zz_loc (L1 := [(0, .ref v0), (1, .ref v1)]) [0, 1] rfl ?_
      exact hx0 _ (Option.some.inj h).symm
set_option maxHeartbeats 2000000 in
theorem zBU_readFrom_152 {G : GXM} {X : CxM} (hG : GokM G) (C : CoM G X cU_readFrom "HomeFreed$Rules") (N : mLM X = 5) {d : Nat} (hD : dpM X = d) (hd : 5 ≤ d) {v0 : Nat} {v1 : Nat} {K : Nat → Nat → Int32 → Int32 → Mem → Option ((Mem) ⊕ (Mem))} {q : (Mem) ⊕ (Mem)} (hK : ∀ (v2 : Int32) (v3 : Int32) (M : Mem), K v0 v1 v2 v3 M = some q → ZM G X 30 [(0, .ref v0), (1, .ref v1), (2, .int v2), (3, .int v3)] [] M 0 0) (hx0 : ∀ y : Mem, q = (.inl y) → ZM G X 171 [(0, .ref v0), (1, .ref v1)] [] y 0 0) (hx1 : ∀ y : Mem, q = (.inr y) → ZM G X 186 [(0, .ref v0), (1, .ref v1)] [] y 0 0) {v2 : Int32} {v3 : Int32} {M : Mem} (h : BU_readFrom_152 K v0 v1 v2 v3 M = some q) : ZM G X 152 [(0, .ref v0), (1, .ref v1), (2, .int v2), (3, .int v3)] [] M 0 0 := by
  unfold BU_readFrom_152 at h
  refine zz_aload_n C 1 ddU_readFrom_152 rfl rfl ?_
  obtain ⟨h2, h⟩ := gdN h
  obtain ⟨q1, hq1, h⟩ := bindN h
  refine zz_callV0 (As := []) C ddU_readFrom_153 wd_474 my_R_mark mv_R_mark ⟨_, rfl, rfl⟩ (xR_mark hG (d - 1) (by omega) hq1) (by omega) h2 rfl rfl (Nat.le_of_ble_eq_true rfl) ?_
  exact zBU_readFrom_156 hG C N hD hd hK hx0 hx1 h
set_option maxHeartbeats 2000000 in
theorem zBU_readFrom_87 {G : GXM} {X : CxM} (hG : GokM G) (C : CoM G X cU_readFrom "HomeFreed$Rules") (N : mLM X = 5) {d : Nat} (hD : dpM X = d) (hd : 5 ≤ d) {v0 : Nat} {v1 : Nat} {K : Nat → Nat → Int32 → Int32 → Mem → Option ((Mem) ⊕ (Mem))} {q : (Mem) ⊕ (Mem)} (hK : ∀ (v2 : Int32) (v3 : Int32) (M : Mem), K v0 v1 v2 v3 M = some q → ZM G X 30 [(0, .ref v0), (1, .ref v1), (2, .int v2), (3, .int v3)] [] M 0 0) (hx0 : ∀ y : Mem, q = (.inl y) → ZM G X 171 [(0, .ref v0), (1, .ref v1)] [] y 0 0) (hx1 : ∀ y : Mem, q = (.inr y) → ZM G X 186 [(0, .ref v0), (1, .ref v1)] [] y 0 0) {v2 : Int32} {v3 : Int32} {v4 : Int32} {M : Mem} (h : BU_readFrom_87 K v0 v1 v2 v3 v4 M = some q) : ZM G X 87 [(0, .ref v0), (1, .ref v1), (2, .int v2), (3, .int v3), (4, .int v4)] [] M 0 0 := by
  unfold BU_readFrom_87 at h
  refine zz_iload C 4 ddU_readFrom_87 rfl ?_
  refine zz_bipush (v := 99) C ddU_readFrom_89 (by decide) ?_
  refine zz_icmp_ne (tgt := 152) C ddU_readFrom_91 rfl (fun hc => ?_) (fun hc => ?_)
  · replace h := iteF h hc
    refine zz_loc (L1 := [(0, .ref v0), (1, .ref v1), (2, .int v2), (3, .int v3)]) [0, 1, 2, 3] rfl ?_
    exact zBU_readFrom_152 hG C N hD hd hK hx0 hx1 h
  · replace h := iteT h hc
    refine zz_aload_n C 0 ddU_readFrom_94 rfl rfl ?_
    obtain ⟨h1, h⟩ := gdN h
    refine zz_geti C ddU_readFrom_95 fl_U_18 rfl h1 ?_
    refine zz_bipush (v := 6) C ddU_readFrom_98 (by decide) ?_
    refine zz_icmp_ge (tgt := 152) C ddU_readFrom_100 rfl (fun hc => ?_) (fun hc => ?_)
    · replace h := iteT h hc
      refine zz_loc (L1 := [(0, .ref v0), (1, .ref v1), (2, .int v2), (3, .int v3)]) [0, 1, 2, 3] rfl ?_
      exact zBU_readFrom_152 hG C N hD hd hK hx0 hx1 h
    · replace h := iteF h hc
      refine zz_aload_n C 1 ddU_readFrom_103 rfl rfl ?_
      obtain ⟨h3, h⟩ := gdN h
      obtain ⟨q2, hq2, h⟩ := bindN h
      refine zz_callV0 (As := []) C ddU_readFrom_104 wd_375 my_R_pass mv_R_pass ⟨_, rfl, rfl⟩ (xR_pass hG (d - 1) (by omega) hq2) (by omega) h3 rfl rfl (Nat.le_of_ble_eq_true rfl) ?_
      refine zz_aload_n C 0 ddU_readFrom_107 rfl rfl ?_
      obtain ⟨h4, h⟩ := gdN h
      obtain ⟨h5, h⟩ := gdN h
      refine zz_getr C ddU_readFrom_108 fl_U_15 rfl h4 (of_decide_eq_true h5) ?_
      refine zz_aload_n C 0 ddU_readFrom_111 rfl rfl ?_
      refine zz_geti C ddU_readFrom_112 fl_U_18 rfl h4 ?_
      refine zz_iconst (v := 1) C ddU_readFrom_115 (by decide) ?_
      obtain ⟨h6, h⟩ := gdN h
      refine zz_iastore C ddU_readFrom_116 h6 ?_
      refine zz_aload_n C 0 ddU_readFrom_117 rfl rfl ?_
      refine zz_dup C ddU_readFrom_118 rfl ?_
      refine zz_geti C ddU_readFrom_119 fl_U_18 rfl h4 ?_
      refine zz_iconst (v := 1) C ddU_readFrom_122 (by decide) ?_
      refine zz_iadd C ddU_readFrom_123 ?_
      refine zz_puti C ddU_readFrom_124 fl_U_18 rfl rfl rfl h4 ?_
      refine zz_aload_n C 1 ddU_readFrom_127 rfl rfl ?_
      refine zz_ldcS_6002 C ddU_readFrom_128 ?_
      refine hb_getsN (a := 5004) C ddU_readFrom_130 wd_498 hG.2.2.2.2.2.2.2.2.2.2.1 ?_
      refine hb_getsN (a := 5005) C ddU_readFrom_133 wd_500 hG.2.2.2.2.2.2.2.2.2.2.2.1 ?_
      refine zz_aload_n C 0 ddU_readFrom_136 rfl rfl ?_
      refine zz_getr C ddU_readFrom_137 fl_U_15 rfl h4 (of_decide_eq_true h5) ?_
      refine zz_aload_n C 0 ddU_readFrom_140 rfl rfl ?_
      refine zz_geti C ddU_readFrom_141 fl_U_18 rfl h4 ?_
      refine zz_iconst (v := 1) C ddU_readFrom_144 (by decide) ?_
      refine zz_isub C ddU_readFrom_145 ?_
      obtain ⟨q7, hq7, h⟩ := bindN h
      refine zz_callS0 (As := [.ref v1, .ref 6002, .ref 5004, .ref 5005, .ref (grM q2 v0 1), .int ((giM (siM (siM q2 (grM q2 v0 1) (Int32.toNatClampNeg (giM q2 v0 2)) 1) v0 2 ((giM (siM q2 (grM q2 v0 1) (Int32.toNatClampNeg (giM q2 v0 2)) 1) v0 2) + 1)) v0 2) - 1)]) C ddU_readFrom_146 wd_384 my_U_readItems mv_U_readItems (xU_readItems hG (d - 1) (by omega) hq7) (by omega) rfl rfl (Nat.le_of_ble_eq_true rfl) ?_
      refine zz_goto (tgt := 156) C ddU_readFrom_149 rfl ?_
      refine zz_loc (L1 := [(0, .ref v0), (1, .ref v1), (2, .int v2), (3, .int v3)]) [0, 1, 2, 3] rfl ?_
      exact zBU_readFrom_156 hG C N hD hd hK hx0 hx1 h
set_option maxHeartbeats 2000000 in
theorem zBU_readFrom_30 {G : GXM} {X : CxM} (hG : GokM G) (C : CoM G X cU_readFrom "HomeFreed$Rules") (N : mLM X = 5) {d : Nat} (hD : dpM X = d) (hd : 5 ≤ d) {v0 : Nat} {v1 : Nat} {K : Nat → Nat → Int32 → Int32 → Mem → Option ((Mem) ⊕ (Mem))} {q : (Mem) ⊕ (Mem)} (hK : ∀ (v2 : Int32) (v3 : Int32) (M : Mem), K v0 v1 v2 v3 M = some q → ZM G X 30 [(0, .ref v0), (1, .ref v1), (2, .int v2), (3, .int v3)] [] M 0 0) (hx0 : ∀ y : Mem, q = (.inl y) → ZM G X 171 [(0, .ref v0), (1, .ref v1)] [] y 0 0) (hx1 : ∀ y : Mem, q = (.inr y) → ZM G X 186 [(0, .ref v0), (1, .ref v1)] [] y 0 0) {v2 : Int32} {v3 : Int32} {M : Mem} (h : BU_readFrom_30 K v0 v1 v2 v3 M = some q) : ZM G X 30 [(0, .ref v0), (1, .ref v1), (2, .int v2), (3, .int v3)] [] M 0 0 := by
  unfold BU_readFrom_30 at h
  refine zz_iload_n C 3 ddU_readFrom_30 rfl rfl ?_
  refine zz_sipush (v := 240) C ddU_readFrom_31 (by decide) ?_
  refine zz_icmp_ge (tgt := 186) C ddU_readFrom_34 rfl (fun hc => ?_) (fun hc => ?_)
  · replace h := iteT h hc
    refine zz_loc (L1 := [(0, .ref v0), (1, .ref v1)]) [0, 1] rfl ?_
    exact hx1 _ (Option.some.inj h).symm
  · replace h := iteF h hc
    refine zz_aload_n C 1 ddU_readFrom_37 rfl rfl ?_
    obtain ⟨h2, h⟩ := gdN h
    obtain ⟨q1, hq1, h⟩ := bindN h
    refine zz_callV0 (As := []) C ddU_readFrom_38 wd_367 my_R_isWrong mv_R_isWrong ⟨_, rfl, rfl⟩ (xR_isWrong hG (d - 1) (by omega) hq1) (by omega) h2 rfl rfl (Nat.le_of_ble_eq_true rfl) ?_
    refine zz_if_ne (tgt := 186) C ddU_readFrom_41 rfl (fun hc => ?_) (fun hc => ?_)
    · replace h := iteF h hc
      refine zz_loc (L1 := [(0, .ref v0), (1, .ref v1)]) [0, 1] rfl ?_
      exact hx1 _ (Option.some.inj h).symm
    · replace h := iteT h hc
      refine zz_aload_n C 1 ddU_readFrom_44 rfl rfl ?_
      obtain ⟨h4, h⟩ := gdN h
      obtain ⟨q3, hq3, h⟩ := bindN h
      refine zz_callV0 (As := []) C ddU_readFrom_45 wd_371 my_R_peek mv_R_peek ⟨_, rfl, rfl⟩ (xR_peek hG (d - 1) (by omega) hq3) (by omega) h4 rfl rfl (Nat.le_of_ble_eq_true rfl) ?_
      refine zz_istore (L1 := [(4, .int q3.1), (0, .ref v0), (1, .ref v1), (2, .int v2), (3, .int v3)]) C ddU_readFrom_48 N (by decide) rfl ?_
      refine zz_iload C 0 ddU_readFrom_50 rfl ?_
      refine zz_bipush (v := 115) C ddU_readFrom_52 (by decide) ?_
      refine zz_icmp_ne (tgt := 87) C ddU_readFrom_54 rfl (fun hc => ?_) (fun hc => ?_)
      · replace h := iteF h hc
        refine zz_loc (L1 := [(0, .ref v0), (1, .ref v1), (2, .int v2), (3, .int v3), (4, .int q3.1)]) [1, 2, 3, 4, 0] rfl ?_
        exact zBU_readFrom_87 hG C N hD hd hK hx0 hx1 h
      · replace h := iteT h hc
        refine zz_iload_n C 3 ddU_readFrom_57 rfl rfl ?_
        refine zz_if_ne (tgt := 87) C ddU_readFrom_58 rfl (fun hc => ?_) (fun hc => ?_)
        · replace h := iteF h hc
          refine zz_loc (L1 := [(0, .ref v0), (1, .ref v1), (2, .int v2), (3, .int v3), (4, .int q3.1)]) [1, 2, 3, 4, 0] rfl ?_
          exact zBU_readFrom_87 hG C N hD hd hK hx0 hx1 h
        · replace h := iteT h hc
          refine zz_iconst (v := 1) C ddU_readFrom_61 (by decide) ?_
          refine zz_istore_n (L1 := [(2, .int 1), (4, .int q3.1), (0, .ref v0), (1, .ref v1), (3, .int v3)]) C ddU_readFrom_62 rfl N (by decide) rfl ?_
          refine zz_aload_n C 3 ddU_readFrom_63 rfl rfl ?_
          obtain ⟨h6, h⟩ := gdN h
          obtain ⟨q5, hq5, h⟩ := bindN h
          refine zz_callV0 (As := []) C ddU_readFrom_64 wd_375 my_R_pass mv_R_pass ⟨_, rfl, rfl⟩ (xR_pass hG (d - 1) (by omega) hq5) (by omega) h6 rfl rfl (Nat.le_of_ble_eq_true rfl) ?_
          refine zz_aload_n C 3 ddU_readFrom_67 rfl rfl ?_
          refine zz_ldcS_6001 C ddU_readFrom_68 ?_
          refine hb_getsN (a := 5001) C ddU_readFrom_70 wd_380 hG.2.2.2.2.2.2.2.1 ?_
          refine hb_getsN (a := 5002) C ddU_readFrom_73 wd_382 hG.2.2.2.2.2.2.2.2.1 ?_
          refine zz_aload_n C 2 ddU_readFrom_76 rfl rfl ?_
          obtain ⟨h7, h⟩ := gdN h
          obtain ⟨h8, h⟩ := gdN h
          refine zz_getr C ddU_readFrom_77 fl_U_9 rfl h7 (of_decide_eq_true h8) ?_
          refine zz_iconst (v := 0) C ddU_readFrom_80 (by decide) ?_
          obtain ⟨q9, hq9, h⟩ := bindN h
          refine zz_callS0 (As := [.ref v1, .ref 6001, .ref 5001, .ref 5002, .ref (grM q5 v0 0), .int 0]) C ddU_readFrom_81 wd_384 my_U_readItems mv_U_readItems (xU_readItems hG (d - 1) (by omega) hq9) (by omega) rfl rfl (Nat.le_of_ble_eq_true rfl) ?_
          refine zz_goto (tgt := 156) C ddU_readFrom_84 rfl ?_
          refine zz_loc (L1 := [(0, .ref v0), (1, .ref v1), (2, .int 1), (3, .int v3)]) [2, 3, 0, 4] rfl ?_
          exact zBU_readFrom_156 hG C N hD hd hK hx0 hx1 h
set_option maxHeartbeats 2000000 in
theorem zLU_readFrom_30 {G : GXM} {X : CxM} (hG : GokM G) (C : CoM G X cU_readFrom "HomeFreed$Rules") (N : mLM X = 5) {d : Nat} (hD : dpM X = d) (hd : 5 ≤ d) {v0 : Nat} {v1 : Nat} {q : (Mem) ⊕ (Mem)} : ∀ (f : Nat) (v2 : Int32) (v3 : Int32) (M : Mem), LU_readFrom_30 f v0 v1 v2 v3 M = some q → (hx0 : ∀ y : Mem, q = (.inl y) → ZM G X 171 [(0, .ref v0), (1, .ref v1)] [] y 0 0) → (hx1 : ∀ y : Mem, q = (.inr y) → ZM G X 186 [(0, .ref v0), (1, .ref v1)] [] y 0 0) → ZM G X 30 [(0, .ref v0), (1, .ref v1), (2, .int v2), (3, .int v3)] [] M 0 0 := by
  intro f
  induction f with
  | zero => intro v2 v3 M h; cases h
  | succ f ih =>
    intro v2 v3 M h hx0 hx1
    exact zBU_readFrom_30 hG C N hD hd (K := LU_readFrom_30 f) (q := q) (fun v2 v3 M h => ih v2 v3 M h hx0 hx1) hx0 hx1 h
set_option maxHeartbeats 2000000 in
theorem xU_readFrom {G : GXM} {l : Launch} (hG : GokM G) (d : Nat) (hd : 5 ≤ d) {v0 : Nat} {v1 : Nat} {M : Mem} {q : Int32 × Mem} (h : fU_readFrom v0 v1 M = some q) : ExM G l d 0 0 yU_readFrom cU_readFrom 5 (some .int) [.ref v0, .ref v1] M (some (.int q.1)) q.2 := by
  refine ex_of hG (by decide +kernel) (Nat.le_of_ble_eq_true rfl) ?_
  intro X hl C E N hD hn
  show ZM G X 0 [(0, .ref v0), (1, .ref v1)] [] M 0 0
  unfold fU_readFrom at h
  refine hb_getsN (a := 5003) C ddU_readFrom_0 wd_358 hG.2.2.2.2.2.2.2.2.2.1 ?_
  refine zz_iconst (v := 0) C ddU_readFrom_3 (by decide) ?_
  refine zz_aload_n C 0 ddU_readFrom_4 rfl rfl ?_
  obtain ⟨h1, h⟩ := gdN h
  obtain ⟨h2, h⟩ := gdN h
  refine zz_getr C ddU_readFrom_5 fl_U_9 rfl h1 (of_decide_eq_true h2) ?_
  refine zz_iconst (v := 0) C ddU_readFrom_8 (by decide) ?_
  refine zz_aload_n C 0 ddU_readFrom_9 rfl rfl ?_
  refine zz_getr C ddU_readFrom_10 fl_U_9 rfl h1 (of_decide_eq_true h2) ?_
  obtain ⟨h3, h⟩ := gdN h
  refine zz_alenI C ddU_readFrom_13 h3 ?_
  obtain ⟨h4, h⟩ := gdN h
  refine zz_copy C ddU_readFrom_14 wd_360 ⟨wd_362, wd_361, wd_14⟩ h4 (by omega) (Nat.le_of_ble_eq_true rfl) ?_
  refine zz_aload_n C 0 ddU_readFrom_17 rfl rfl ?_
  refine zz_iconst (v := 0) C ddU_readFrom_18 (by decide) ?_
  refine zz_puti C ddU_readFrom_19 fl_U_18 rfl rfl rfl h1 ?_
  refine zz_aload_n C 1 ddU_readFrom_22 rfl rfl ?_
  obtain ⟨h6, h⟩ := gdN h
  obtain ⟨q5, hq5, h⟩ := bindN h
  refine zz_callV0 (As := []) C ddU_readFrom_23 wd_363 my_R_rewind mv_R_rewind ⟨_, rfl, rfl⟩ (xR_rewind hG (d - 1) (by omega) hq5) (by omega) h6 rfl rfl (Nat.le_of_ble_eq_true rfl) ?_
  refine zz_iconst (v := 0) C ddU_readFrom_26 (by decide) ?_
  refine zz_istore_n (L1 := [(2, .int 0), (0, .ref v0), (1, .ref v1)]) C ddU_readFrom_27 rfl N (by decide) rfl ?_
  refine zz_iconst (v := 0) C ddU_readFrom_28 (by decide) ?_
  refine zz_istore_n (L1 := [(3, .int 0), (2, .int 0), (0, .ref v0), (1, .ref v1)]) C ddU_readFrom_29 rfl N (by decide) rfl ?_
  refine zz_loc (L1 := [(0, .ref v0), (1, .ref v1), (2, .int 0), (3, .int 0)]) [2, 3, 1, 0] rfl ?_
  obtain ⟨q7, hq7, h⟩ := bindN h
  refine zLU_readFrom_30 hG C N hD hd 1000000 _ _ _ hq7 ?_ ?_
  · intro y8 eq7; replace eq7 := eq7.symm; subst eq7
    refine zz_goto (tgt := 186) C ddU_readFrom_171 rfl ?_
    exact zBU_readFrom_186 hG C N hD hd E h
  · intro y9 eq7; replace eq7 := eq7.symm; subst eq7
    exact zBU_readFrom_186 hG C N hD hd E h
theorem ddS_readStep_0 : decode cS_readStep 0 = .ok (.aload_n 1, 1) := by decide +kernel
theorem ddS_readStep_1 : decode cS_readStep 1 = .ok (.invokevirtual 44, 3) := by decide +kernel
theorem ddS_readStep_4 : decode cS_readStep 4 = .ok (.istore 4, 2) := by decide +kernel
theorem ddS_readStep_6 : decode cS_readStep 6 = .ok (.iload 4, 2) := by decide +kernel
theorem ddS_readStep_8 : decode cS_readStep 8 = .ok (.iconst (-1), 1) := by decide +kernel
theorem ddS_readStep_9 : decode cS_readStep 9 = .ok (.if_icmp .ne 7, 3) := by decide +kernel
theorem ddS_readStep_12 : decode cS_readStep 12 = .ok (.iconst (-1), 1) := by decide +kernel
theorem ddS_readStep_13 : decode cS_readStep 13 = .ok (.goto 11, 3) := by decide +kernel
theorem ddS_readStep_16 : decode cS_readStep 16 = .ok (.ldc 58, 2) := by decide +kernel
theorem ddS_readStep_18 : decode cS_readStep 18 = .ok (.iload 4, 2) := by decide +kernel
theorem ddS_readStep_20 : decode cS_readStep 20 = .ok (.i2c, 1) := by decide +kernel
theorem ddS_readStep_21 : decode cS_readStep 21 = .ok (.invokevirtual 60, 3) := by decide +kernel
theorem ddS_readStep_24 : decode cS_readStep 24 = .ok (.istore 5, 2) := by decide +kernel
theorem ddS_readStep_26 : decode cS_readStep 26 = .ok (.iload 5, 2) := by decide +kernel
theorem ddS_readStep_28 : decode cS_readStep 28 = .ok (.iconst 5, 1) := by decide +kernel
theorem ddS_readStep_29 : decode cS_readStep 29 = .ok (.if_icmp .ne 13, 3) := by decide +kernel
theorem ddS_readStep_32 : decode cS_readStep 32 = .ok (.iload_n 3, 1) := by decide +kernel
theorem ddS_readStep_33 : decode cS_readStep 33 = .ok (.bipush 6, 2) := by decide +kernel
theorem ddS_readStep_35 : decode cS_readStep 35 = .ok (.if_icmp .lt 7, 3) := by decide +kernel
theorem ddS_readStep_38 : decode cS_readStep 38 = .ok (.iconst 1, 1) := by decide +kernel
theorem ddS_readStep_39 : decode cS_readStep 39 = .ok (.goto 4, 3) := by decide +kernel
theorem ddS_readStep_42 : decode cS_readStep 42 = .ok (.iconst 0, 1) := by decide +kernel
theorem ddS_readStep_43 : decode cS_readStep 43 = .ok (.istore 6, 2) := by decide +kernel
theorem ddS_readStep_45 : decode cS_readStep 45 = .ok (.iload 5, 2) := by decide +kernel
theorem ddS_readStep_47 : decode cS_readStep 47 = .ok (.bipush 6, 2) := by decide +kernel
theorem ddS_readStep_49 : decode cS_readStep 49 = .ok (.if_icmp .ne 11, 3) := by decide +kernel
theorem ddS_readStep_52 : decode cS_readStep 52 = .ok (.iload_n 3, 1) := by decide +kernel
theorem ddS_readStep_53 : decode cS_readStep 53 = .ok (.ifCond .gt 7, 3) := by decide +kernel
theorem ddS_readStep_56 : decode cS_readStep 56 = .ok (.iconst 1, 1) := by decide +kernel
theorem ddS_readStep_57 : decode cS_readStep 57 = .ok (.goto 4, 3) := by decide +kernel
theorem ddS_readStep_60 : decode cS_readStep 60 = .ok (.iconst 0, 1) := by decide +kernel
theorem ddS_readStep_61 : decode cS_readStep 61 = .ok (.istore 7, 2) := by decide +kernel
theorem ddS_readStep_63 : decode cS_readStep 63 = .ok (.iload 5, 2) := by decide +kernel
theorem ddS_readStep_65 : decode cS_readStep 65 = .ok (.ifCond .lt 13, 3) := by decide +kernel
theorem ddS_readStep_68 : decode cS_readStep 68 = .ok (.iload 6, 2) := by decide +kernel
theorem ddS_readStep_70 : decode cS_readStep 70 = .ok (.ifCond .ne 8, 3) := by decide +kernel
theorem ddS_readStep_73 : decode cS_readStep 73 = .ok (.iload 7, 2) := by decide +kernel
theorem ddS_readStep_75 : decode cS_readStep 75 = .ok (.ifCond .eq 9, 3) := by decide +kernel
theorem ddS_readStep_78 : decode cS_readStep 78 = .ok (.aload_n 1, 1) := by decide +kernel
theorem ddS_readStep_79 : decode cS_readStep 79 = .ok (.invokevirtual 52, 3) := by decide +kernel
theorem ddS_readStep_82 : decode cS_readStep 82 = .ok (.iload_n 3, 1) := by decide +kernel
theorem ddS_readStep_83 : decode cS_readStep 83 = .ok (.ireturn, 1) := by decide +kernel
theorem ddS_readStep_84 : decode cS_readStep 84 = .ok (.aload_n 1, 1) := by decide +kernel
theorem ddS_readStep_85 : decode cS_readStep 85 = .ok (.invokevirtual 66, 3) := by decide +kernel
theorem ddS_readStep_88 : decode cS_readStep 88 = .ok (.aload_n 0, 1) := by decide +kernel
theorem ddS_readStep_89 : decode cS_readStep 89 = .ok (.getfield 9, 3) := by decide +kernel
theorem ddS_readStep_92 : decode cS_readStep 92 = .ok (.iload_n 2, 1) := by decide +kernel
theorem ddS_readStep_93 : decode cS_readStep 93 = .ok (.iload 5, 2) := by decide +kernel
theorem ddS_readStep_95 : decode cS_readStep 95 = .ok (.iastore, 1) := by decide +kernel
theorem ddS_readStep_96 : decode cS_readStep 96 = .ok (.aload_n 0, 1) := by decide +kernel
theorem ddS_readStep_97 : decode cS_readStep 97 = .ok (.getfield 15, 3) := by decide +kernel
theorem ddS_readStep_100 : decode cS_readStep 100 = .ok (.iload_n 2, 1) := by decide +kernel
theorem ddS_readStep_101 : decode cS_readStep 101 = .ok (.iload 5, 2) := by decide +kernel
theorem ddS_readStep_103 : decode cS_readStep 103 = .ok (.iconst 5, 1) := by decide +kernel
theorem ddS_readStep_104 : decode cS_readStep 104 = .ok (.if_icmp .ge 10, 3) := by decide +kernel
theorem ddS_readStep_107 : decode cS_readStep 107 = .ok (.aload_n 1, 1) := by decide +kernel
theorem ddS_readStep_108 : decode cS_readStep 108 = .ok (.invokevirtual 69, 3) := by decide +kernel
theorem ddS_readStep_111 : decode cS_readStep 111 = .ok (.goto 4, 3) := by decide +kernel
theorem ddS_readStep_114 : decode cS_readStep 114 = .ok (.iconst (-1), 1) := by decide +kernel
theorem ddS_readStep_115 : decode cS_readStep 115 = .ok (.iastore, 1) := by decide +kernel
theorem ddS_readStep_116 : decode cS_readStep 116 = .ok (.aload_n 0, 1) := by decide +kernel
theorem ddS_readStep_117 : decode cS_readStep 117 = .ok (.getfield 18, 3) := by decide +kernel
theorem ddS_readStep_120 : decode cS_readStep 120 = .ok (.iload_n 2, 1) := by decide +kernel
theorem ddS_readStep_121 : decode cS_readStep 121 = .ok (.iconst (-1), 1) := by decide +kernel
theorem ddS_readStep_122 : decode cS_readStep 122 = .ok (.iastore, 1) := by decide +kernel
theorem ddS_readStep_123 : decode cS_readStep 123 = .ok (.iload 5, 2) := by decide +kernel
theorem ddS_readStep_125 : decode cS_readStep 125 = .ok (.ifCond .eq 9, 3) := by decide +kernel
theorem ddS_readStep_128 : decode cS_readStep 128 = .ok (.iload 5, 2) := by decide +kernel
theorem ddS_readStep_130 : decode cS_readStep 130 = .ok (.iconst 1, 1) := by decide +kernel
theorem ddS_readStep_131 : decode cS_readStep 131 = .ok (.if_icmp .ne 37, 3) := by decide +kernel
theorem ddS_readStep_134 : decode cS_readStep 134 = .ok (.aload_n 1, 1) := by decide +kernel
theorem ddS_readStep_135 : decode cS_readStep 135 = .ok (.bipush 58, 2) := by decide +kernel
theorem ddS_readStep_137 : decode cS_readStep 137 = .ok (.invokevirtual 48, 3) := by decide +kernel
theorem ddS_readStep_140 : decode cS_readStep 140 = .ok (.aload_n 0, 1) := by decide +kernel
theorem ddS_readStep_141 : decode cS_readStep 141 = .ok (.getfield 18, 3) := by decide +kernel
theorem ddS_readStep_144 : decode cS_readStep 144 = .ok (.iload_n 2, 1) := by decide +kernel
theorem ddS_readStep_145 : decode cS_readStep 145 = .ok (.iload 5, 2) := by decide +kernel
theorem ddS_readStep_147 : decode cS_readStep 147 = .ok (.ifCond .ne 13, 3) := by decide +kernel
theorem ddS_readStep_150 : decode cS_readStep 150 = .ok (.aload_n 1, 1) := by decide +kernel
theorem ddS_readStep_151 : decode cS_readStep 151 = .ok (.iconst 1, 1) := by decide +kernel
theorem ddS_readStep_152 : decode cS_readStep 152 = .ok (.bipush 40, 2) := by decide +kernel
theorem ddS_readStep_154 : decode cS_readStep 154 = .ok (.invokevirtual 72, 3) := by decide +kernel
theorem ddS_readStep_157 : decode cS_readStep 157 = .ok (.goto 10, 3) := by decide +kernel
theorem ddS_readStep_160 : decode cS_readStep 160 = .ok (.aload_n 1, 1) := by decide +kernel
theorem ddS_readStep_161 : decode cS_readStep 161 = .ok (.iconst 0, 1) := by decide +kernel
theorem ddS_readStep_162 : decode cS_readStep 162 = .ok (.bipush 23, 2) := by decide +kernel
theorem ddS_readStep_164 : decode cS_readStep 164 = .ok (.invokevirtual 72, 3) := by decide +kernel
theorem ddS_readStep_167 : decode cS_readStep 167 = .ok (.iastore, 1) := by decide +kernel
theorem ddS_readStep_168 : decode cS_readStep 168 = .ok (.iload 5, 2) := by decide +kernel
theorem ddS_readStep_170 : decode cS_readStep 170 = .ok (.iconst 5, 1) := by decide +kernel
theorem ddS_readStep_171 : decode cS_readStep 171 = .ok (.if_icmp .ne 7, 3) := by decide +kernel
theorem ddS_readStep_174 : decode cS_readStep 174 = .ok (.iload_n 3, 1) := by decide +kernel
theorem ddS_readStep_175 : decode cS_readStep 175 = .ok (.iconst 1, 1) := by decide +kernel
theorem ddS_readStep_176 : decode cS_readStep 176 = .ok (.iadd, 1) := by decide +kernel
theorem ddS_readStep_177 : decode cS_readStep 177 = .ok (.ireturn, 1) := by decide +kernel
theorem ddS_readStep_178 : decode cS_readStep 178 = .ok (.iload 5, 2) := by decide +kernel
theorem ddS_readStep_180 : decode cS_readStep 180 = .ok (.bipush 6, 2) := by decide +kernel
theorem ddS_readStep_182 : decode cS_readStep 182 = .ok (.if_icmp .ne 9, 3) := by decide +kernel
theorem ddS_readStep_185 : decode cS_readStep 185 = .ok (.iload_n 3, 1) := by decide +kernel
theorem ddS_readStep_186 : decode cS_readStep 186 = .ok (.iconst 1, 1) := by decide +kernel
theorem ddS_readStep_187 : decode cS_readStep 187 = .ok (.isub, 1) := by decide +kernel
theorem ddS_readStep_188 : decode cS_readStep 188 = .ok (.goto 4, 3) := by decide +kernel
theorem ddS_readStep_191 : decode cS_readStep 191 = .ok (.iload_n 3, 1) := by decide +kernel
theorem ddS_readStep_192 : decode cS_readStep 192 = .ok (.ireturn, 1) := by decide +kernel
set_option maxHeartbeats 2000000 in
theorem zBS_readStep_192 {G : GXM} {X : CxM} (hG : GokM G) (C : CoM G X cS_readStep "HomeFreed$Script") (N : mLM X = 8) {d : Nat} (hD : dpM X = d) (hd : 4 ≤ d)  {q : Int32 × Mem} (E : EnM G X (some .int) (some (.int q.1)) q.2 0 0) {w0 : Int32} {M : Mem} (h : BS_readStep_192 w0 M = some q) : ZM G X 192 [] [.int w0] M 0 0 := by
  unfold BS_readStep_192 at h
  obtain rfl := Option.some.inj h
  exact zz_iret C E ddS_readStep_192
set_option maxHeartbeats 2000000 in
theorem zBS_readStep_168 {G : GXM} {X : CxM} (hG : GokM G) (C : CoM G X cS_readStep "HomeFreed$Script") (N : mLM X = 8) {d : Nat} (hD : dpM X = d) (hd : 4 ≤ d)  {q : Int32 × Mem} (E : EnM G X (some .int) (some (.int q.1)) q.2 0 0) {v3 : Int32} {v5 : Int32} {M : Mem} (h : BS_readStep_168 v3 v5 M = some q) : ZM G X 168 [(3, .int v3), (5, .int v5)] [] M 0 0 := by
  unfold BS_readStep_168 at h
  refine zz_iload C 1 ddS_readStep_168 rfl ?_
  refine zz_iconst (v := 5) C ddS_readStep_170 (by decide) ?_
  refine zz_icmp_ne (tgt := 178) C ddS_readStep_171 rfl (fun hc => ?_) (fun hc => ?_)
  · replace h := iteF h hc
    refine zz_iload C 1 ddS_readStep_178 rfl ?_
    refine zz_bipush (v := 6) C ddS_readStep_180 (by decide) ?_
    refine zz_icmp_ne (tgt := 191) C ddS_readStep_182 rfl (fun hc => ?_) (fun hc => ?_)
    · replace h := iteF h hc
      refine zz_iload_n C 0 ddS_readStep_191 rfl rfl ?_
      refine zz_loc (L1 := []) [] rfl ?_
      exact zBS_readStep_192 hG C N hD hd E h
    · replace h := iteT h hc
      refine zz_iload_n C 0 ddS_readStep_185 rfl rfl ?_
      refine zz_iconst (v := 1) C ddS_readStep_186 (by decide) ?_
      refine zz_isub C ddS_readStep_187 ?_
      refine zz_goto (tgt := 192) C ddS_readStep_188 rfl ?_
      refine zz_loc (L1 := []) [] rfl ?_
      exact zBS_readStep_192 hG C N hD hd E h
  · replace h := iteT h hc
    refine zz_iload_n C 0 ddS_readStep_174 rfl rfl ?_
    refine zz_iconst (v := 1) C ddS_readStep_175 (by decide) ?_
    refine zz_iadd C ddS_readStep_176 ?_
    obtain rfl := Option.some.inj h
    exact zz_iret C E ddS_readStep_177
set_option maxHeartbeats 2000000 in
theorem zBS_readStep_167 {G : GXM} {X : CxM} (hG : GokM G) (C : CoM G X cS_readStep "HomeFreed$Script") (N : mLM X = 8) {d : Nat} (hD : dpM X = d) (hd : 4 ≤ d)  {q : Int32 × Mem} (E : EnM G X (some .int) (some (.int q.1)) q.2 0 0) {v3 : Int32} {v5 : Int32} {w0 : Nat} {w1 : Int32} {w2 : Int32} {M : Mem} (h : BS_readStep_167 v3 v5 w0 w1 w2 M = some q) : ZM G X 167 [(3, .int v3), (5, .int v5)] [.int w2, .int w1, .ref w0] M 0 0 := by
  unfold BS_readStep_167 at h
  obtain ⟨h1, h⟩ := gdN h
  refine zz_iastore C ddS_readStep_167 h1 ?_
  exact zBS_readStep_168 hG C N hD hd E h
set_option maxHeartbeats 2000000 in
theorem zBS_readStep_134 {G : GXM} {X : CxM} (hG : GokM G) (C : CoM G X cS_readStep "HomeFreed$Script") (N : mLM X = 8) {d : Nat} (hD : dpM X = d) (hd : 4 ≤ d)  {q : Int32 × Mem} (E : EnM G X (some .int) (some (.int q.1)) q.2 0 0) {v0 : Nat} {v1 : Nat} {v2 : Int32} {v3 : Int32} {v5 : Int32} {M : Mem} (h : BS_readStep_134 v0 v1 v2 v3 v5 M = some q) : ZM G X 134 [(0, .ref v0), (1, .ref v1), (2, .int v2), (3, .int v3), (5, .int v5)] [] M 0 0 := by
  unfold BS_readStep_134 at h
  refine zz_aload_n C 1 ddS_readStep_134 rfl rfl ?_
  refine zz_bipush (v := 58) C ddS_readStep_135 (by decide) ?_
  obtain ⟨h2, h⟩ := gdN h
  obtain ⟨q1, hq1, h⟩ := bindN h
  refine zz_callV0 (As := [.int 58]) C ddS_readStep_137 wd_526 my_R_expect mv_R_expect ⟨_, rfl, rfl⟩ (xR_expect hG (d - 1) (by omega) hq1) (by omega) h2 rfl rfl (Nat.le_of_ble_eq_true rfl) ?_
  refine zz_aload_n C 0 ddS_readStep_140 rfl rfl ?_
  obtain ⟨h3, h⟩ := gdN h
  obtain ⟨h4, h⟩ := gdN h
  refine zz_getr C ddS_readStep_141 fl_S_18 rfl h3 (of_decide_eq_true h4) ?_
  refine zz_iload_n C 2 ddS_readStep_144 rfl rfl ?_
  refine zz_iload C 4 ddS_readStep_145 rfl ?_
  refine zz_if_ne (tgt := 160) C ddS_readStep_147 rfl (fun hc => ?_) (fun hc => ?_)
  · replace h := iteF h hc
    refine zz_aload_n C 1 ddS_readStep_160 rfl rfl ?_
    refine zz_iconst (v := 0) C ddS_readStep_161 (by decide) ?_
    refine zz_bipush (v := 23) C ddS_readStep_162 (by decide) ?_
    obtain ⟨h6, h⟩ := gdN h
    obtain ⟨q5, hq5, h⟩ := bindN h
    refine zz_callV0 (As := [.int 0, .int 23]) C ddS_readStep_164 wd_527 my_R_readNumber mv_R_readNumber ⟨_, rfl, rfl⟩ (xR_readNumber hG (d - 1) (by omega) hq5) (by omega) h6 rfl rfl (Nat.le_of_ble_eq_true rfl) ?_
    refine zz_loc (L1 := [(3, .int v3), (5, .int v5)]) [3, 4] rfl ?_
    exact zBS_readStep_167 hG C N hD hd E h
  · replace h := iteT h hc
    refine zz_aload_n C 1 ddS_readStep_150 rfl rfl ?_
    refine zz_iconst (v := 1) C ddS_readStep_151 (by decide) ?_
    refine zz_bipush (v := 40) C ddS_readStep_152 (by decide) ?_
    obtain ⟨h8, h⟩ := gdN h
    obtain ⟨q7, hq7, h⟩ := bindN h
    refine zz_callV0 (As := [.int 1, .int 40]) C ddS_readStep_154 wd_527 my_R_readNumber mv_R_readNumber ⟨_, rfl, rfl⟩ (xR_readNumber hG (d - 1) (by omega) hq7) (by omega) h8 rfl rfl (Nat.le_of_ble_eq_true rfl) ?_
    refine zz_goto (tgt := 167) C ddS_readStep_157 rfl ?_
    refine zz_loc (L1 := [(3, .int v3), (5, .int v5)]) [3, 4] rfl ?_
    exact zBS_readStep_167 hG C N hD hd E h
set_option maxHeartbeats 2000000 in
theorem zBS_readStep_115 {G : GXM} {X : CxM} (hG : GokM G) (C : CoM G X cS_readStep "HomeFreed$Script") (N : mLM X = 8) {d : Nat} (hD : dpM X = d) (hd : 4 ≤ d)  {q : Int32 × Mem} (E : EnM G X (some .int) (some (.int q.1)) q.2 0 0) {v0 : Nat} {v1 : Nat} {v2 : Int32} {v3 : Int32} {v5 : Int32} {w0 : Nat} {w1 : Int32} {w2 : Int32} {M : Mem} (h : BS_readStep_115 v0 v1 v2 v3 v5 w0 w1 w2 M = some q) : ZM G X 115 [(0, .ref v0), (1, .ref v1), (2, .int v2), (3, .int v3), (5, .int v5)] [.int w2, .int w1, .ref w0] M 0 0 := by
  unfold BS_readStep_115 at h
  obtain ⟨h1, h⟩ := gdN h
  refine zz_iastore C ddS_readStep_115 h1 ?_
  refine zz_aload_n C 0 ddS_readStep_116 rfl rfl ?_
  obtain ⟨h2, h⟩ := gdN h
  obtain ⟨h3, h⟩ := gdN h
  refine zz_getr C ddS_readStep_117 fl_S_18 rfl h2 (of_decide_eq_true h3) ?_
  refine zz_iload_n C 2 ddS_readStep_120 rfl rfl ?_
  refine zz_iconst (v := (-1)) C ddS_readStep_121 (by decide) ?_
  obtain ⟨h4, h⟩ := gdN h
  refine zz_iastore C ddS_readStep_122 h4 ?_
  refine zz_iload C 4 ddS_readStep_123 rfl ?_
  refine zz_if_eq (tgt := 134) C ddS_readStep_125 rfl (fun hc => ?_) (fun hc => ?_)
  · replace h := iteT h hc
    exact zBS_readStep_134 hG C N hD hd E h
  · replace h := iteF h hc
    refine zz_iload C 4 ddS_readStep_128 rfl ?_
    refine zz_iconst (v := 1) C ddS_readStep_130 (by decide) ?_
    refine zz_icmp_ne (tgt := 168) C ddS_readStep_131 rfl (fun hc => ?_) (fun hc => ?_)
    · replace h := iteF h hc
      refine zz_loc (L1 := [(3, .int v3), (5, .int v5)]) [3, 4] rfl ?_
      exact zBS_readStep_168 hG C N hD hd E h
    · replace h := iteT h hc
      exact zBS_readStep_134 hG C N hD hd E h
set_option maxHeartbeats 2000000 in
theorem zBS_readStep_78 {G : GXM} {X : CxM} (hG : GokM G) (C : CoM G X cS_readStep "HomeFreed$Script") (N : mLM X = 8) {d : Nat} (hD : dpM X = d) (hd : 4 ≤ d)  {q : Int32 × Mem} (E : EnM G X (some .int) (some (.int q.1)) q.2 0 0) {v1 : Nat} {v3 : Int32} {M : Mem} (h : BS_readStep_78 v1 v3 M = some q) : ZM G X 78 [(1, .ref v1), (3, .int v3)] [] M 0 0 := by
  unfold BS_readStep_78 at h
  refine zz_aload_n C 0 ddS_readStep_78 rfl rfl ?_
  obtain ⟨h2, h⟩ := gdN h
  obtain ⟨q1, hq1, h⟩ := bindN h
  refine zz_callV0 (As := []) C ddS_readStep_79 wd_523 my_R_mark mv_R_mark ⟨_, rfl, rfl⟩ (xR_mark hG (d - 1) (by omega) hq1) (by omega) h2 rfl rfl (Nat.le_of_ble_eq_true rfl) ?_
  refine zz_iload_n C 1 ddS_readStep_82 rfl rfl ?_
  obtain rfl := Option.some.inj h
  exact zz_iret C E ddS_readStep_83
set_option maxHeartbeats 2000000 in
theorem zBS_readStep_61 {G : GXM} {X : CxM} (hG : GokM G) (C : CoM G X cS_readStep "HomeFreed$Script") (N : mLM X = 8) {d : Nat} (hD : dpM X = d) (hd : 4 ≤ d)  {q : Int32 × Mem} (E : EnM G X (some .int) (some (.int q.1)) q.2 0 0) {v0 : Nat} {v1 : Nat} {v2 : Int32} {v3 : Int32} {v5 : Int32} {v6 : Int32} {w0 : Int32} {M : Mem} (h : BS_readStep_61 v0 v1 v2 v3 v5 v6 w0 M = some q) : ZM G X 61 [(0, .ref v0), (1, .ref v1), (2, .int v2), (3, .int v3), (5, .int v5), (6, .int v6)] [.int w0] M 0 0 := by
  unfold BS_readStep_61 at h
  refine zz_istore (L1 := [(7, .int w0), (0, .ref v0), (1, .ref v1), (2, .int v2), (3, .int v3), (5, .int v5), (6, .int v6)]) C ddS_readStep_61 N (by decide) rfl ?_
  refine zz_iload C 5 ddS_readStep_63 rfl ?_
  refine zz_if_lt (tgt := 78) C ddS_readStep_65 rfl (fun hc => ?_) (fun hc => ?_)
  · replace h := iteT h hc
    refine zz_loc (L1 := [(1, .ref v1), (3, .int v3)]) [2, 4] rfl ?_
    exact zBS_readStep_78 hG C N hD hd E h
  · replace h := iteF h hc
    refine zz_iload C 6 ddS_readStep_68 rfl ?_
    refine zz_if_ne (tgt := 78) C ddS_readStep_70 rfl (fun hc => ?_) (fun hc => ?_)
    · replace h := iteF h hc
      refine zz_loc (L1 := [(1, .ref v1), (3, .int v3)]) [2, 4] rfl ?_
      exact zBS_readStep_78 hG C N hD hd E h
    · replace h := iteT h hc
      refine zz_iload C 0 ddS_readStep_73 rfl ?_
      refine zz_if_eq (tgt := 84) C ddS_readStep_75 rfl (fun hc => ?_) (fun hc => ?_)
      · replace h := iteT h hc
        refine zz_aload_n C 2 ddS_readStep_84 rfl rfl ?_
        obtain ⟨h2, h⟩ := gdN h
        obtain ⟨q1, hq1, h⟩ := bindN h
        refine zz_callV0 (As := []) C ddS_readStep_85 wd_524 my_R_pass mv_R_pass ⟨_, rfl, rfl⟩ (xR_pass hG (d - 1) (by omega) hq1) (by omega) h2 rfl rfl (Nat.le_of_ble_eq_true rfl) ?_
        refine zz_aload_n C 1 ddS_readStep_88 rfl rfl ?_
        obtain ⟨h3, h⟩ := gdN h
        obtain ⟨h4, h⟩ := gdN h
        refine zz_getr C ddS_readStep_89 fl_S_9 rfl h3 (of_decide_eq_true h4) ?_
        refine zz_iload_n C 3 ddS_readStep_92 rfl rfl ?_
        refine zz_iload C 5 ddS_readStep_93 rfl ?_
        obtain ⟨h5, h⟩ := gdN h
        refine zz_iastore C ddS_readStep_95 h5 ?_
        refine zz_aload_n C 1 ddS_readStep_96 rfl rfl ?_
        obtain ⟨h6, h⟩ := gdN h
        refine zz_getr C ddS_readStep_97 fl_S_15 rfl h3 (of_decide_eq_true h6) ?_
        refine zz_iload_n C 3 ddS_readStep_100 rfl rfl ?_
        refine zz_iload C 5 ddS_readStep_101 rfl ?_
        refine zz_iconst (v := 5) C ddS_readStep_103 (by decide) ?_
        refine zz_icmp_ge (tgt := 114) C ddS_readStep_104 rfl (fun hc => ?_) (fun hc => ?_)
        · replace h := iteT h hc
          refine zz_iconst (v := (-1)) C ddS_readStep_114 (by decide) ?_
          refine zz_loc (L1 := [(0, .ref v0), (1, .ref v1), (2, .int v2), (3, .int v3), (5, .int v5)]) [1, 2, 3, 4, 5] rfl ?_
          exact zBS_readStep_115 hG C N hD hd E h
        · replace h := iteF h hc
          refine zz_aload_n C 2 ddS_readStep_107 rfl rfl ?_
          obtain ⟨h8, h⟩ := gdN h
          obtain ⟨q7, hq7, h⟩ := bindN h
          refine zz_callV0 (As := []) C ddS_readStep_108 wd_525 my_R_readDigit mv_R_readDigit ⟨_, rfl, rfl⟩ (xR_readDigit hG (d - 1) (by omega) hq7) (by omega) h8 rfl rfl (Nat.le_of_ble_eq_true rfl) ?_
          refine zz_goto (tgt := 115) C ddS_readStep_111 rfl ?_
          refine zz_loc (L1 := [(0, .ref v0), (1, .ref v1), (2, .int v2), (3, .int v3), (5, .int v5)]) [1, 2, 3, 4, 5] rfl ?_
          exact zBS_readStep_115 hG C N hD hd E h
      · replace h := iteF h hc
        refine zz_loc (L1 := [(1, .ref v1), (3, .int v3)]) [2, 4] rfl ?_
        exact zBS_readStep_78 hG C N hD hd E h
set_option maxHeartbeats 2000000 in
theorem zBS_readStep_60 {G : GXM} {X : CxM} (hG : GokM G) (C : CoM G X cS_readStep "HomeFreed$Script") (N : mLM X = 8) {d : Nat} (hD : dpM X = d) (hd : 4 ≤ d)  {q : Int32 × Mem} (E : EnM G X (some .int) (some (.int q.1)) q.2 0 0) {v0 : Nat} {v1 : Nat} {v2 : Int32} {v3 : Int32} {v5 : Int32} {v6 : Int32} {M : Mem} (h : BS_readStep_60 v0 v1 v2 v3 v5 v6 M = some q) : ZM G X 60 [(0, .ref v0), (1, .ref v1), (2, .int v2), (3, .int v3), (5, .int v5), (6, .int v6)] [] M 0 0 := by
  unfold BS_readStep_60 at h
  refine zz_iconst (v := 0) C ddS_readStep_60 (by decide) ?_
  exact zBS_readStep_61 hG C N hD hd E h
set_option maxHeartbeats 2000000 in
theorem zBS_readStep_43 {G : GXM} {X : CxM} (hG : GokM G) (C : CoM G X cS_readStep "HomeFreed$Script") (N : mLM X = 8) {d : Nat} (hD : dpM X = d) (hd : 4 ≤ d)  {q : Int32 × Mem} (E : EnM G X (some .int) (some (.int q.1)) q.2 0 0) {v0 : Nat} {v1 : Nat} {v2 : Int32} {v3 : Int32} {v5 : Int32} {w0 : Int32} {M : Mem} (h : BS_readStep_43 v0 v1 v2 v3 v5 w0 M = some q) : ZM G X 43 [(0, .ref v0), (1, .ref v1), (2, .int v2), (3, .int v3), (5, .int v5)] [.int w0] M 0 0 := by
  unfold BS_readStep_43 at h
  refine zz_istore (L1 := [(6, .int w0), (0, .ref v0), (1, .ref v1), (2, .int v2), (3, .int v3), (5, .int v5)]) C ddS_readStep_43 N (by decide) rfl ?_
  refine zz_iload C 5 ddS_readStep_45 rfl ?_
  refine zz_bipush (v := 6) C ddS_readStep_47 (by decide) ?_
  refine zz_icmp_ne (tgt := 60) C ddS_readStep_49 rfl (fun hc => ?_) (fun hc => ?_)
  · replace h := iteF h hc
    refine zz_loc (L1 := [(0, .ref v0), (1, .ref v1), (2, .int v2), (3, .int v3), (5, .int v5), (6, .int w0)]) [1, 2, 3, 4, 5, 0] rfl ?_
    exact zBS_readStep_60 hG C N hD hd E h
  · replace h := iteT h hc
    refine zz_iload_n C 4 ddS_readStep_52 rfl rfl ?_
    refine zz_if_gt (tgt := 60) C ddS_readStep_53 rfl (fun hc => ?_) (fun hc => ?_)
    · replace h := iteT h hc
      refine zz_loc (L1 := [(0, .ref v0), (1, .ref v1), (2, .int v2), (3, .int v3), (5, .int v5), (6, .int w0)]) [1, 2, 3, 4, 5, 0] rfl ?_
      exact zBS_readStep_60 hG C N hD hd E h
    · replace h := iteF h hc
      refine zz_iconst (v := 1) C ddS_readStep_56 (by decide) ?_
      refine zz_goto (tgt := 61) C ddS_readStep_57 rfl ?_
      refine zz_loc (L1 := [(0, .ref v0), (1, .ref v1), (2, .int v2), (3, .int v3), (5, .int v5), (6, .int w0)]) [1, 2, 3, 4, 5, 0] rfl ?_
      exact zBS_readStep_61 hG C N hD hd E h
set_option maxHeartbeats 2000000 in
theorem zBS_readStep_42 {G : GXM} {X : CxM} (hG : GokM G) (C : CoM G X cS_readStep "HomeFreed$Script") (N : mLM X = 8) {d : Nat} (hD : dpM X = d) (hd : 4 ≤ d)  {q : Int32 × Mem} (E : EnM G X (some .int) (some (.int q.1)) q.2 0 0) {v0 : Nat} {v1 : Nat} {v2 : Int32} {v3 : Int32} {v5 : Int32} {M : Mem} (h : BS_readStep_42 v0 v1 v2 v3 v5 M = some q) : ZM G X 42 [(0, .ref v0), (1, .ref v1), (2, .int v2), (3, .int v3), (5, .int v5)] [] M 0 0 := by
  unfold BS_readStep_42 at h
  refine zz_iconst (v := 0) C ddS_readStep_42 (by decide) ?_
  exact zBS_readStep_43 hG C N hD hd E h
set_option maxHeartbeats 2000000 in
theorem zBS_readStep_24 {G : GXM} {X : CxM} (hG : GokM G) (C : CoM G X cS_readStep "HomeFreed$Script") (N : mLM X = 8) {d : Nat} (hD : dpM X = d) (hd : 4 ≤ d)  {q : Int32 × Mem} (E : EnM G X (some .int) (some (.int q.1)) q.2 0 0) {v0 : Nat} {v1 : Nat} {v2 : Int32} {v3 : Int32} {w0 : Int32} {M : Mem} (h : BS_readStep_24 v0 v1 v2 v3 w0 M = some q) : ZM G X 24 [(0, .ref v0), (1, .ref v1), (2, .int v2), (3, .int v3)] [.int w0] M 0 0 := by
  unfold BS_readStep_24 at h
  refine zz_istore (L1 := [(5, .int w0), (0, .ref v0), (1, .ref v1), (2, .int v2), (3, .int v3)]) C ddS_readStep_24 N (by decide) rfl ?_
  refine zz_iload C 0 ddS_readStep_26 rfl ?_
  refine zz_iconst (v := 5) C ddS_readStep_28 (by decide) ?_
  refine zz_icmp_ne (tgt := 42) C ddS_readStep_29 rfl (fun hc => ?_) (fun hc => ?_)
  · replace h := iteF h hc
    refine zz_loc (L1 := [(0, .ref v0), (1, .ref v1), (2, .int v2), (3, .int v3), (5, .int w0)]) [1, 2, 3, 4, 0] rfl ?_
    exact zBS_readStep_42 hG C N hD hd E h
  · replace h := iteT h hc
    refine zz_iload_n C 4 ddS_readStep_32 rfl rfl ?_
    refine zz_bipush (v := 6) C ddS_readStep_33 (by decide) ?_
    refine zz_icmp_lt (tgt := 42) C ddS_readStep_35 rfl (fun hc => ?_) (fun hc => ?_)
    · replace h := iteT h hc
      refine zz_loc (L1 := [(0, .ref v0), (1, .ref v1), (2, .int v2), (3, .int v3), (5, .int w0)]) [1, 2, 3, 4, 0] rfl ?_
      exact zBS_readStep_42 hG C N hD hd E h
    · replace h := iteF h hc
      refine zz_iconst (v := 1) C ddS_readStep_38 (by decide) ?_
      refine zz_goto (tgt := 43) C ddS_readStep_39 rfl ?_
      refine zz_loc (L1 := [(0, .ref v0), (1, .ref v1), (2, .int v2), (3, .int v3), (5, .int w0)]) [1, 2, 3, 4, 0] rfl ?_
      exact zBS_readStep_43 hG C N hD hd E h
set_option maxHeartbeats 2000000 in
theorem xS_readStep {G : GXM} {l : Launch} (hG : GokM G) (d : Nat) (hd : 4 ≤ d) {v0 : Nat} {v1 : Nat} {v2 : Int32} {v3 : Int32} {M : Mem} {q : Int32 × Mem} (h : fS_readStep v0 v1 v2 v3 M = some q) : ExM G l d 0 0 yS_readStep cS_readStep 8 (some .int) [.ref v0, .ref v1, .int v2, .int v3] M (some (.int q.1)) q.2 := by
  refine ex_of hG (by decide +kernel) (Nat.le_of_ble_eq_true rfl) ?_
  intro X hl C E N hD hn
  show ZM G X 0 [(0, .ref v0), (1, .ref v1), (2, .int v2), (3, .int v3)] [] M 0 0
  unfold fS_readStep at h
  refine zz_aload_n C 1 ddS_readStep_0 rfl rfl ?_
  obtain ⟨h2, h⟩ := gdN h
  obtain ⟨q1, hq1, h⟩ := bindN h
  refine zz_callV0 (As := []) C ddS_readStep_1 wd_520 my_R_peek mv_R_peek ⟨_, rfl, rfl⟩ (xR_peek hG (d - 1) (by omega) hq1) (by omega) h2 rfl rfl (Nat.le_of_ble_eq_true rfl) ?_
  refine zz_istore (L1 := [(4, .int q1.1), (0, .ref v0), (1, .ref v1), (2, .int v2), (3, .int v3)]) C ddS_readStep_4 N (by decide) rfl ?_
  refine zz_iload C 0 ddS_readStep_6 rfl ?_
  refine zz_iconst (v := (-1)) C ddS_readStep_8 (by decide) ?_
  refine zz_icmp_ne (tgt := 16) C ddS_readStep_9 rfl (fun hc => ?_) (fun hc => ?_)
  · replace h := iteF h hc
    refine zz_ldcS_6003 C ddS_readStep_16 ?_
    refine zz_iload C 0 ddS_readStep_18 rfl ?_
    refine zz_i2c C ddS_readStep_20 ?_
    obtain ⟨h4, h⟩ := gdN h
    obtain ⟨q3, hq3, h⟩ := bindN h
    refine zz_callJ0 (As := [.int ((Int32.toUInt32 q1.1 % 65536).toInt32)]) C ddS_readStep_21 wd_522 my_J_indexOf mv_J_indexOf rfl (xJ_indexOf hG (d - 1) (by omega) hq3) (by omega) h4 rfl rfl (Nat.le_of_ble_eq_true rfl) ?_
    refine zz_loc (L1 := [(0, .ref v0), (1, .ref v1), (2, .int v2), (3, .int v3)]) [1, 2, 3, 4] rfl ?_
    exact zBS_readStep_24 hG C N hD hd E h
  · replace h := iteT h hc
    refine zz_iconst (v := (-1)) C ddS_readStep_12 (by decide) ?_
    refine zz_goto (tgt := 24) C ddS_readStep_13 rfl ?_
    refine zz_loc (L1 := [(0, .ref v0), (1, .ref v1), (2, .int v2), (3, .int v3)]) [1, 2, 3, 4] rfl ?_
    exact zBS_readStep_24 hG C N hD hd E h
theorem ddS_readFrom_0 : decode cS_readFrom 0 = .ok (.aload_n 0, 1) := by decide +kernel
theorem ddS_readFrom_1 : decode cS_readFrom 1 = .ok (.iconst 0, 1) := by decide +kernel
theorem ddS_readFrom_2 : decode cS_readFrom 2 = .ok (.putfield 21, 3) := by decide +kernel
theorem ddS_readFrom_5 : decode cS_readFrom 5 = .ok (.aload_n 1, 1) := by decide +kernel
theorem ddS_readFrom_6 : decode cS_readFrom 6 = .ok (.invokevirtual 31, 3) := by decide +kernel
theorem ddS_readFrom_9 : decode cS_readFrom 9 = .ok (.iconst 0, 1) := by decide +kernel
theorem ddS_readFrom_10 : decode cS_readFrom 10 = .ok (.istore_n 2, 1) := by decide +kernel
theorem ddS_readFrom_11 : decode cS_readFrom 11 = .ok (.iconst 0, 1) := by decide +kernel
theorem ddS_readFrom_12 : decode cS_readFrom 12 = .ok (.istore_n 3, 1) := by decide +kernel
theorem ddS_readFrom_13 : decode cS_readFrom 13 = .ok (.iconst 0, 1) := by decide +kernel
theorem ddS_readFrom_14 : decode cS_readFrom 14 = .ok (.istore 4, 2) := by decide +kernel
theorem ddS_readFrom_16 : decode cS_readFrom 16 = .ok (.iload 4, 2) := by decide +kernel
theorem ddS_readFrom_18 : decode cS_readFrom 18 = .ok (.bipush 24, 2) := by decide +kernel
theorem ddS_readFrom_20 : decode cS_readFrom 20 = .ok (.if_icmp .ge 70, 3) := by decide +kernel
theorem ddS_readFrom_23 : decode cS_readFrom 23 = .ok (.iload_n 3, 1) := by decide +kernel
theorem ddS_readFrom_24 : decode cS_readFrom 24 = .ok (.ifCond .ne 66, 3) := by decide +kernel
theorem ddS_readFrom_27 : decode cS_readFrom 27 = .ok (.aload_n 1, 1) := by decide +kernel
theorem ddS_readFrom_28 : decode cS_readFrom 28 = .ok (.invokevirtual 36, 3) := by decide +kernel
theorem ddS_readFrom_31 : decode cS_readFrom 31 = .ok (.ifCond .ne 59, 3) := by decide +kernel
theorem ddS_readFrom_34 : decode cS_readFrom 34 = .ok (.aload_n 0, 1) := by decide +kernel
theorem ddS_readFrom_35 : decode cS_readFrom 35 = .ok (.aload_n 1, 1) := by decide +kernel
theorem ddS_readFrom_36 : decode cS_readFrom 36 = .ok (.iload 4, 2) := by decide +kernel
theorem ddS_readFrom_38 : decode cS_readFrom 38 = .ok (.iload_n 2, 1) := by decide +kernel
theorem ddS_readFrom_39 : decode cS_readFrom 39 = .ok (.invokevirtual 40, 3) := by decide +kernel
theorem ddS_readFrom_42 : decode cS_readFrom 42 = .ok (.istore_n 2, 1) := by decide +kernel
theorem ddS_readFrom_43 : decode cS_readFrom 43 = .ok (.aload_n 0, 1) := by decide +kernel
theorem ddS_readFrom_44 : decode cS_readFrom 44 = .ok (.iload 4, 2) := by decide +kernel
theorem ddS_readFrom_46 : decode cS_readFrom 46 = .ok (.iconst 1, 1) := by decide +kernel
theorem ddS_readFrom_47 : decode cS_readFrom 47 = .ok (.iadd, 1) := by decide +kernel
theorem ddS_readFrom_48 : decode cS_readFrom 48 = .ok (.putfield 21, 3) := by decide +kernel
theorem ddS_readFrom_51 : decode cS_readFrom 51 = .ok (.aload_n 1, 1) := by decide +kernel
theorem ddS_readFrom_52 : decode cS_readFrom 52 = .ok (.invokevirtual 44, 3) := by decide +kernel
theorem ddS_readFrom_55 : decode cS_readFrom 55 = .ok (.iconst (-1), 1) := by decide +kernel
theorem ddS_readFrom_56 : decode cS_readFrom 56 = .ok (.if_icmp .ne 7, 3) := by decide +kernel
theorem ddS_readFrom_59 : decode cS_readFrom 59 = .ok (.iconst 1, 1) := by decide +kernel
theorem ddS_readFrom_60 : decode cS_readFrom 60 = .ok (.goto 4, 3) := by decide +kernel
theorem ddS_readFrom_63 : decode cS_readFrom 63 = .ok (.iconst 0, 1) := by decide +kernel
theorem ddS_readFrom_64 : decode cS_readFrom 64 = .ok (.istore_n 3, 1) := by decide +kernel
theorem ddS_readFrom_65 : decode cS_readFrom 65 = .ok (.iload_n 3, 1) := by decide +kernel
theorem ddS_readFrom_66 : decode cS_readFrom 66 = .ok (.ifCond .ne 18, 3) := by decide +kernel
theorem ddS_readFrom_69 : decode cS_readFrom 69 = .ok (.aload_n 0, 1) := by decide +kernel
theorem ddS_readFrom_70 : decode cS_readFrom 70 = .ok (.getfield 21, 3) := by decide +kernel
theorem ddS_readFrom_73 : decode cS_readFrom 73 = .ok (.bipush 24, 2) := by decide +kernel
theorem ddS_readFrom_75 : decode cS_readFrom 75 = .ok (.if_icmp .ge 9, 3) := by decide +kernel
theorem ddS_readFrom_78 : decode cS_readFrom 78 = .ok (.aload_n 1, 1) := by decide +kernel
theorem ddS_readFrom_79 : decode cS_readFrom 79 = .ok (.bipush 59, 2) := by decide +kernel
theorem ddS_readFrom_81 : decode cS_readFrom 81 = .ok (.invokevirtual 48, 3) := by decide +kernel
theorem ddS_readFrom_84 : decode cS_readFrom 84 = .ok (.iinc 4 1, 3) := by decide +kernel
theorem ddS_readFrom_87 : decode cS_readFrom 87 = .ok (.goto (-71), 3) := by decide +kernel
theorem ddS_readFrom_90 : decode cS_readFrom 90 = .ok (.iload_n 3, 1) := by decide +kernel
theorem ddS_readFrom_91 : decode cS_readFrom 91 = .ok (.ifCond .eq 7, 3) := by decide +kernel
theorem ddS_readFrom_94 : decode cS_readFrom 94 = .ok (.iload_n 2, 1) := by decide +kernel
theorem ddS_readFrom_95 : decode cS_readFrom 95 = .ok (.ifCond .le 7, 3) := by decide +kernel
theorem ddS_readFrom_98 : decode cS_readFrom 98 = .ok (.aload_n 1, 1) := by decide +kernel
theorem ddS_readFrom_99 : decode cS_readFrom 99 = .ok (.invokevirtual 52, 3) := by decide +kernel
theorem ddS_readFrom_102 : decode cS_readFrom 102 = .ok (.aload_n 1, 1) := by decide +kernel
theorem ddS_readFrom_103 : decode cS_readFrom 103 = .ok (.getfield 55, 3) := by decide +kernel
theorem ddS_readFrom_106 : decode cS_readFrom 106 = .ok (.ireturn, 1) := by decide +kernel
set_option maxHeartbeats 2000000 in
theorem zBS_readFrom_102 {G : GXM} {X : CxM} (hG : GokM G) (C : CoM G X cS_readFrom "HomeFreed$Script") (N : mLM X = 5) {d : Nat} (hD : dpM X = d) (hd : 5 ≤ d)  {q : Int32 × Mem} (E : EnM G X (some .int) (some (.int q.1)) q.2 0 0) {v1 : Nat} {M : Mem} (h : BS_readFrom_102 v1 M = some q) : ZM G X 102 [(1, .ref v1)] [] M 0 0 := by
  unfold BS_readFrom_102 at h
  refine zz_aload_n C 0 ddS_readFrom_102 rfl rfl ?_
  obtain ⟨h1, h⟩ := gdN h
  refine zz_geti C ddS_readFrom_103 fl_S_55 rfl h1 ?_
  obtain rfl := Option.some.inj h
  exact zz_iret C E ddS_readFrom_106
set_option maxHeartbeats 2000000 in
theorem zBS_readFrom_98 {G : GXM} {X : CxM} (hG : GokM G) (C : CoM G X cS_readFrom "HomeFreed$Script") (N : mLM X = 5) {d : Nat} (hD : dpM X = d) (hd : 5 ≤ d)  {q : Int32 × Mem} (E : EnM G X (some .int) (some (.int q.1)) q.2 0 0) {v1 : Nat} {M : Mem} (h : BS_readFrom_98 v1 M = some q) : ZM G X 98 [(1, .ref v1)] [] M 0 0 := by
  unfold BS_readFrom_98 at h
  refine zz_aload_n C 0 ddS_readFrom_98 rfl rfl ?_
  obtain ⟨h2, h⟩ := gdN h
  obtain ⟨q1, hq1, h⟩ := bindN h
  refine zz_callV0 (As := []) C ddS_readFrom_99 wd_523 my_R_mark mv_R_mark ⟨_, rfl, rfl⟩ (xR_mark hG (d - 1) (by omega) hq1) (by omega) h2 rfl rfl (Nat.le_of_ble_eq_true rfl) ?_
  exact zBS_readFrom_102 hG C N hD hd E h
set_option maxHeartbeats 2000000 in
theorem zBS_readFrom_90 {G : GXM} {X : CxM} (hG : GokM G) (C : CoM G X cS_readFrom "HomeFreed$Script") (N : mLM X = 5) {d : Nat} (hD : dpM X = d) (hd : 5 ≤ d)  {q : Int32 × Mem} (E : EnM G X (some .int) (some (.int q.1)) q.2 0 0) {v1 : Nat} {v2 : Int32} {v3 : Int32} {M : Mem} (h : BS_readFrom_90 v1 v2 v3 M = some q) : ZM G X 90 [(1, .ref v1), (2, .int v2), (3, .int v3)] [] M 0 0 := by
  unfold BS_readFrom_90 at h
  refine zz_iload_n C 2 ddS_readFrom_90 rfl rfl ?_
  refine zz_if_eq (tgt := 98) C ddS_readFrom_91 rfl (fun hc => ?_) (fun hc => ?_)
  · replace h := iteT h hc
    refine zz_loc (L1 := [(1, .ref v1)]) [0] rfl ?_
    exact zBS_readFrom_98 hG C N hD hd E h
  · replace h := iteF h hc
    refine zz_iload_n C 1 ddS_readFrom_94 rfl rfl ?_
    refine zz_if_le (tgt := 102) C ddS_readFrom_95 rfl (fun hc => ?_) (fun hc => ?_)
    · replace h := iteT h hc
      refine zz_loc (L1 := [(1, .ref v1)]) [0] rfl ?_
      exact zBS_readFrom_102 hG C N hD hd E h
    · replace h := iteF h hc
      refine zz_loc (L1 := [(1, .ref v1)]) [0] rfl ?_
      exact zBS_readFrom_98 hG C N hD hd E h
set_option maxHeartbeats 2000000 in
theorem zBS_readFrom_84 {G : GXM} {X : CxM} (hG : GokM G) (C : CoM G X cS_readFrom "HomeFreed$Script") (N : mLM X = 5) {d : Nat} (hD : dpM X = d) (hd : 5 ≤ d) {v0 : Nat} {v1 : Nat} {K : Nat → Nat → Int32 → Int32 → Int32 → Mem → Option ((Int32 × Int32 × Mem))} {q : (Int32 × Int32 × Mem)} (hK : ∀ (v2 : Int32) (v3 : Int32) (v4 : Int32) (M : Mem), K v0 v1 v2 v3 v4 M = some q → ZM G X 16 [(0, .ref v0), (1, .ref v1), (2, .int v2), (3, .int v3), (4, .int v4)] [] M 0 0) (hx0 : ∀ y : Int32 × Int32 × Mem, q = y → ZM G X 90 [(1, .ref v1), (2, .int y.1), (3, .int y.2.1)] [] y.2.2 0 0) {v2 : Int32} {v3 : Int32} {v4 : Int32} {M : Mem} (h : BS_readFrom_84 K v0 v1 v2 v3 v4 M = some q) : ZM G X 84 [(0, .ref v0), (1, .ref v1), (2, .int v2), (3, .int v3), (4, .int v4)] [] M 0 0 := by
  unfold BS_readFrom_84 at h
  refine zz_iinc (v := v4 + 1) (L1 := [(4, .int (v4 + 1)), (0, .ref v0), (1, .ref v1), (2, .int v2), (3, .int v3)]) C 4 ddS_readFrom_84 rfl rfl N (by decide) rfl ?_
  refine zz_goto (tgt := 16) C ddS_readFrom_87 rfl ?_
  refine zz_loc (L1 := [(0, .ref v0), (1, .ref v1), (2, .int v2), (3, .int v3), (4, .int (v4 + 1))]) [1, 2, 3, 4, 0] rfl ?_
  exact hK _ _ _ _ h
set_option maxHeartbeats 2000000 in
theorem zBS_readFrom_64 {G : GXM} {X : CxM} (hG : GokM G) (C : CoM G X cS_readFrom "HomeFreed$Script") (N : mLM X = 5) {d : Nat} (hD : dpM X = d) (hd : 5 ≤ d) {v0 : Nat} {v1 : Nat} {K : Nat → Nat → Int32 → Int32 → Int32 → Mem → Option ((Int32 × Int32 × Mem))} {q : (Int32 × Int32 × Mem)} (hK : ∀ (v2 : Int32) (v3 : Int32) (v4 : Int32) (M : Mem), K v0 v1 v2 v3 v4 M = some q → ZM G X 16 [(0, .ref v0), (1, .ref v1), (2, .int v2), (3, .int v3), (4, .int v4)] [] M 0 0) (hx0 : ∀ y : Int32 × Int32 × Mem, q = y → ZM G X 90 [(1, .ref v1), (2, .int y.1), (3, .int y.2.1)] [] y.2.2 0 0) {v2 : Int32} {v4 : Int32} {w0 : Int32} {M : Mem} (h : BS_readFrom_64 K v0 v1 v2 v4 w0 M = some q) : ZM G X 64 [(0, .ref v0), (1, .ref v1), (2, .int v2), (4, .int v4)] [.int w0] M 0 0 := by
  unfold BS_readFrom_64 at h
  refine zz_istore_n (L1 := [(3, .int w0), (0, .ref v0), (1, .ref v1), (2, .int v2), (4, .int v4)]) C ddS_readFrom_64 rfl N (by decide) rfl ?_
  refine zz_iload_n C 0 ddS_readFrom_65 rfl rfl ?_
  refine zz_if_ne (tgt := 84) C ddS_readFrom_66 rfl (fun hc => ?_) (fun hc => ?_)
  · replace h := iteF h hc
    refine zz_loc (L1 := [(0, .ref v0), (1, .ref v1), (2, .int v2), (3, .int w0), (4, .int v4)]) [1, 2, 3, 0, 4] rfl ?_
    exact zBS_readFrom_84 hG C N hD hd hK hx0 h
  · replace h := iteT h hc
    refine zz_aload_n C 1 ddS_readFrom_69 rfl rfl ?_
    obtain ⟨h1, h⟩ := gdN h
    refine zz_geti C ddS_readFrom_70 fl_S_21 rfl h1 ?_
    refine zz_bipush (v := 24) C ddS_readFrom_73 (by decide) ?_
    refine zz_icmp_ge (tgt := 84) C ddS_readFrom_75 rfl (fun hc => ?_) (fun hc => ?_)
    · replace h := iteT h hc
      refine zz_loc (L1 := [(0, .ref v0), (1, .ref v1), (2, .int v2), (3, .int w0), (4, .int v4)]) [1, 2, 3, 0, 4] rfl ?_
      exact zBS_readFrom_84 hG C N hD hd hK hx0 h
    · replace h := iteF h hc
      refine zz_aload_n C 2 ddS_readFrom_78 rfl rfl ?_
      refine zz_bipush (v := 59) C ddS_readFrom_79 (by decide) ?_
      obtain ⟨h3, h⟩ := gdN h
      obtain ⟨q2, hq2, h⟩ := bindN h
      refine zz_callV0 (As := [.int 59]) C ddS_readFrom_81 wd_526 my_R_expect mv_R_expect ⟨_, rfl, rfl⟩ (xR_expect hG (d - 1) (by omega) hq2) (by omega) h3 rfl rfl (Nat.le_of_ble_eq_true rfl) ?_
      refine zz_loc (L1 := [(0, .ref v0), (1, .ref v1), (2, .int v2), (3, .int w0), (4, .int v4)]) [1, 2, 3, 0, 4] rfl ?_
      exact zBS_readFrom_84 hG C N hD hd hK hx0 h
set_option maxHeartbeats 2000000 in
theorem zBS_readFrom_16 {G : GXM} {X : CxM} (hG : GokM G) (C : CoM G X cS_readFrom "HomeFreed$Script") (N : mLM X = 5) {d : Nat} (hD : dpM X = d) (hd : 5 ≤ d) {v0 : Nat} {v1 : Nat} {K : Nat → Nat → Int32 → Int32 → Int32 → Mem → Option ((Int32 × Int32 × Mem))} {q : (Int32 × Int32 × Mem)} (hK : ∀ (v2 : Int32) (v3 : Int32) (v4 : Int32) (M : Mem), K v0 v1 v2 v3 v4 M = some q → ZM G X 16 [(0, .ref v0), (1, .ref v1), (2, .int v2), (3, .int v3), (4, .int v4)] [] M 0 0) (hx0 : ∀ y : Int32 × Int32 × Mem, q = y → ZM G X 90 [(1, .ref v1), (2, .int y.1), (3, .int y.2.1)] [] y.2.2 0 0) {v2 : Int32} {v3 : Int32} {v4 : Int32} {M : Mem} (h : BS_readFrom_16 K v0 v1 v2 v3 v4 M = some q) : ZM G X 16 [(0, .ref v0), (1, .ref v1), (2, .int v2), (3, .int v3), (4, .int v4)] [] M 0 0 := by
  unfold BS_readFrom_16 at h
  refine zz_iload C 4 ddS_readFrom_16 rfl ?_
  refine zz_bipush (v := 24) C ddS_readFrom_18 (by decide) ?_
  refine zz_icmp_ge (tgt := 90) C ddS_readFrom_20 rfl (fun hc => ?_) (fun hc => ?_)
  · replace h := iteT h hc
    refine zz_loc (L1 := [(1, .ref v1), (2, .int v2), (3, .int v3)]) [1, 2, 3] rfl ?_
    exact hx0 _ (Option.some.inj h).symm
  · replace h := iteF h hc
    refine zz_iload_n C 3 ddS_readFrom_23 rfl rfl ?_
    refine zz_if_ne (tgt := 90) C ddS_readFrom_24 rfl (fun hc => ?_) (fun hc => ?_)
    · replace h := iteF h hc
      refine zz_loc (L1 := [(1, .ref v1), (2, .int v2), (3, .int v3)]) [1, 2, 3] rfl ?_
      exact hx0 _ (Option.some.inj h).symm
    · replace h := iteT h hc
      refine zz_aload_n C 1 ddS_readFrom_27 rfl rfl ?_
      obtain ⟨h2, h⟩ := gdN h
      obtain ⟨q1, hq1, h⟩ := bindN h
      refine zz_callV0 (As := []) C ddS_readFrom_28 wd_515 my_R_isWrong mv_R_isWrong ⟨_, rfl, rfl⟩ (xR_isWrong hG (d - 1) (by omega) hq1) (by omega) h2 rfl rfl (Nat.le_of_ble_eq_true rfl) ?_
      refine zz_if_ne (tgt := 90) C ddS_readFrom_31 rfl (fun hc => ?_) (fun hc => ?_)
      · replace h := iteF h hc
        refine zz_loc (L1 := [(1, .ref v1), (2, .int v2), (3, .int v3)]) [1, 2, 3] rfl ?_
        exact hx0 _ (Option.some.inj h).symm
      · replace h := iteT h hc
        refine zz_aload_n C 0 ddS_readFrom_34 rfl rfl ?_
        refine zz_aload_n C 1 ddS_readFrom_35 rfl rfl ?_
        refine zz_iload C 4 ddS_readFrom_36 rfl ?_
        refine zz_iload_n C 2 ddS_readFrom_38 rfl rfl ?_
        obtain ⟨h4, h⟩ := gdN h
        obtain ⟨q3, hq3, h⟩ := bindN h
        refine zz_callV0 (As := [.ref v1, .int v4, .int v2]) C ddS_readFrom_39 wd_516 my_S_readStep mv_S_readStep ⟨_, rfl, rfl⟩ (xS_readStep hG (d - 1) (by omega) hq3) (by omega) h4 rfl rfl (Nat.le_of_ble_eq_true rfl) ?_
        refine zz_istore_n (L1 := [(2, .int q3.1), (0, .ref v0), (1, .ref v1), (3, .int v3), (4, .int v4)]) C ddS_readFrom_42 rfl N (by decide) rfl ?_
        refine zz_aload_n C 1 ddS_readFrom_43 rfl rfl ?_
        refine zz_iload C 4 ddS_readFrom_44 rfl ?_
        refine zz_iconst (v := 1) C ddS_readFrom_46 (by decide) ?_
        refine zz_iadd C ddS_readFrom_47 ?_
        obtain ⟨h5, h⟩ := gdN h
        refine zz_puti C ddS_readFrom_48 fl_S_21 rfl rfl rfl h5 ?_
        refine zz_aload_n C 2 ddS_readFrom_51 rfl rfl ?_
        obtain ⟨h7, h⟩ := gdN h
        obtain ⟨q6, hq6, h⟩ := bindN h
        refine zz_callV0 (As := []) C ddS_readFrom_52 wd_520 my_R_peek mv_R_peek ⟨_, rfl, rfl⟩ (xR_peek hG (d - 1) (by omega) hq6) (by omega) h7 rfl rfl (Nat.le_of_ble_eq_true rfl) ?_
        refine zz_iconst (v := (-1)) C ddS_readFrom_55 (by decide) ?_
        refine zz_icmp_ne (tgt := 63) C ddS_readFrom_56 rfl (fun hc => ?_) (fun hc => ?_)
        · replace h := iteF h hc
          refine zz_iconst (v := 0) C ddS_readFrom_63 (by decide) ?_
          refine zz_loc (L1 := [(0, .ref v0), (1, .ref v1), (2, .int q3.1), (4, .int v4)]) [1, 2, 0, 4] rfl ?_
          exact zBS_readFrom_64 hG C N hD hd hK hx0 h
        · replace h := iteT h hc
          refine zz_iconst (v := 1) C ddS_readFrom_59 (by decide) ?_
          refine zz_goto (tgt := 64) C ddS_readFrom_60 rfl ?_
          refine zz_loc (L1 := [(0, .ref v0), (1, .ref v1), (2, .int q3.1), (4, .int v4)]) [1, 2, 0, 4] rfl ?_
          exact zBS_readFrom_64 hG C N hD hd hK hx0 h
set_option maxHeartbeats 2000000 in
theorem zLS_readFrom_16 {G : GXM} {X : CxM} (hG : GokM G) (C : CoM G X cS_readFrom "HomeFreed$Script") (N : mLM X = 5) {d : Nat} (hD : dpM X = d) (hd : 5 ≤ d) {v0 : Nat} {v1 : Nat} {q : (Int32 × Int32 × Mem)} : ∀ (f : Nat) (v2 : Int32) (v3 : Int32) (v4 : Int32) (M : Mem), LS_readFrom_16 f v0 v1 v2 v3 v4 M = some q → (hx0 : ∀ y : Int32 × Int32 × Mem, q = y → ZM G X 90 [(1, .ref v1), (2, .int y.1), (3, .int y.2.1)] [] y.2.2 0 0) → ZM G X 16 [(0, .ref v0), (1, .ref v1), (2, .int v2), (3, .int v3), (4, .int v4)] [] M 0 0 := by
  intro f
  induction f with
  | zero => intro v2 v3 v4 M h; cases h
  | succ f ih =>
    intro v2 v3 v4 M h hx0
    exact zBS_readFrom_16 hG C N hD hd (K := LS_readFrom_16 f) (q := q) (fun v2 v3 v4 M h => ih v2 v3 v4 M h hx0) hx0 h
set_option maxHeartbeats 2000000 in
theorem xS_readFrom {G : GXM} {l : Launch} (hG : GokM G) (d : Nat) (hd : 5 ≤ d) {v0 : Nat} {v1 : Nat} {M : Mem} {q : Int32 × Mem} (h : fS_readFrom v0 v1 M = some q) : ExM G l d 0 0 yS_readFrom cS_readFrom 5 (some .int) [.ref v0, .ref v1] M (some (.int q.1)) q.2 := by
  refine ex_of hG (by decide +kernel) (Nat.le_of_ble_eq_true rfl) ?_
  intro X hl C E N hD hn
  show ZM G X 0 [(0, .ref v0), (1, .ref v1)] [] M 0 0
  unfold fS_readFrom at h
  refine zz_aload_n C 0 ddS_readFrom_0 rfl rfl ?_
  refine zz_iconst (v := 0) C ddS_readFrom_1 (by decide) ?_
  obtain ⟨h1, h⟩ := gdN h
  refine zz_puti C ddS_readFrom_2 fl_S_21 rfl rfl rfl h1 ?_
  refine zz_aload_n C 1 ddS_readFrom_5 rfl rfl ?_
  obtain ⟨h3, h⟩ := gdN h
  obtain ⟨q2, hq2, h⟩ := bindN h
  refine zz_callV0 (As := []) C ddS_readFrom_6 wd_514 my_R_rewind mv_R_rewind ⟨_, rfl, rfl⟩ (xR_rewind hG (d - 1) (by omega) hq2) (by omega) h3 rfl rfl (Nat.le_of_ble_eq_true rfl) ?_
  refine zz_iconst (v := 0) C ddS_readFrom_9 (by decide) ?_
  refine zz_istore_n (L1 := [(2, .int 0), (0, .ref v0), (1, .ref v1)]) C ddS_readFrom_10 rfl N (by decide) rfl ?_
  refine zz_iconst (v := 0) C ddS_readFrom_11 (by decide) ?_
  refine zz_istore_n (L1 := [(3, .int 0), (2, .int 0), (0, .ref v0), (1, .ref v1)]) C ddS_readFrom_12 rfl N (by decide) rfl ?_
  refine zz_iconst (v := 0) C ddS_readFrom_13 (by decide) ?_
  refine zz_istore (L1 := [(4, .int 0), (3, .int 0), (2, .int 0), (0, .ref v0), (1, .ref v1)]) C ddS_readFrom_14 N (by decide) rfl ?_
  refine zz_loc (L1 := [(0, .ref v0), (1, .ref v1), (2, .int 0), (3, .int 0), (4, .int 0)]) [3, 4, 2, 1, 0] rfl ?_
  obtain ⟨q4, hq4, h⟩ := bindN h
  refine zLS_readFrom_16 hG C N hD hd 1000000 _ _ _ _ hq4 ?_
  · intro y5 eq4; replace eq4 := eq4.symm; subst eq4
    exact zBS_readFrom_90 hG C N hD hd E h
theorem ddA_fault_0 : decode cA_fault 0 = .ok (.iload_n 1, 1) := by decide +kernel
theorem ddA_fault_1 : decode cA_fault 1 = .ok (.ifCond .ne 15, 3) := by decide +kernel
theorem ddA_fault_4 : decode cA_fault 4 = .ok (.aload_n 0, 1) := by decide +kernel
theorem ddA_fault_5 : decode cA_fault 5 = .ok (.getfield 32, 3) := by decide +kernel
theorem ddA_fault_8 : decode cA_fault 8 = .ok (.aload_n 0, 1) := by decide +kernel
theorem ddA_fault_9 : decode cA_fault 9 = .ok (.getfield 21, 3) := by decide +kernel
theorem ddA_fault_12 : decode cA_fault 12 = .ok (.invokevirtual 105, 3) := by decide +kernel
theorem ddA_fault_15 : decode cA_fault 15 = .ok (.ireturn, 1) := by decide +kernel
theorem ddA_fault_16 : decode cA_fault 16 = .ok (.iload_n 1, 1) := by decide +kernel
theorem ddA_fault_17 : decode cA_fault 17 = .ok (.iconst 1, 1) := by decide +kernel
theorem ddA_fault_18 : decode cA_fault 18 = .ok (.if_icmp .ne 17, 3) := by decide +kernel
theorem ddA_fault_21 : decode cA_fault 21 = .ok (.aload_n 0, 1) := by decide +kernel
theorem ddA_fault_22 : decode cA_fault 22 = .ok (.getfield 46, 3) := by decide +kernel
theorem ddA_fault_25 : decode cA_fault 25 = .ok (.aload_n 0, 1) := by decide +kernel
theorem ddA_fault_26 : decode cA_fault 26 = .ok (.getfield 21, 3) := by decide +kernel
theorem ddA_fault_29 : decode cA_fault 29 = .ok (.invokevirtual 109, 3) := by decide +kernel
theorem ddA_fault_32 : decode cA_fault 32 = .ok (.goto 5, 3) := by decide +kernel
theorem ddA_fault_35 : decode cA_fault 35 = .ok (.bipush (-2), 2) := by decide +kernel
theorem ddA_fault_37 : decode cA_fault 37 = .ok (.ireturn, 1) := by decide +kernel
set_option maxHeartbeats 2000000 in
theorem zBA_fault_37 {G : GXM} {X : CxM} (hG : GokM G) (C : CoM G X cA_fault "HomeFreed") (N : mLM X = 2) {d : Nat} (hD : dpM X = d) (hd : 6 ≤ d)  {q : Int32 × Mem} (E : EnM G X (some .int) (some (.int q.1)) q.2 0 0) {w0 : Int32} {M : Mem} (h : BA_fault_37 w0 M = some q) : ZM G X 37 [] [.int w0] M 0 0 := by
  unfold BA_fault_37 at h
  obtain rfl := Option.some.inj h
  exact zz_iret C E ddA_fault_37
set_option maxHeartbeats 2000000 in
theorem xA_fault {G : GXM} {l : Launch} (hG : GokM G) (d : Nat) (hd : 6 ≤ d) {v0 : Nat} {v1 : Int32} {M : Mem} {q : Int32 × Mem} (h : fA_fault v0 v1 M = some q) : ExM G l d 0 0 yA_fault cA_fault 2 (some .int) [.ref v0, .int v1] M (some (.int q.1)) q.2 := by
  refine ex_of hG (by decide +kernel) (Nat.le_of_ble_eq_true rfl) ?_
  intro X hl C E N hD hn
  show ZM G X 0 [(0, .ref v0), (1, .int v1)] [] M 0 0
  unfold fA_fault at h
  refine zz_iload_n C 1 ddA_fault_0 rfl rfl ?_
  refine zz_if_ne (tgt := 16) C ddA_fault_1 rfl (fun hc => ?_) (fun hc => ?_)
  · replace h := iteF h hc
    refine zz_iload_n C 1 ddA_fault_16 rfl rfl ?_
    refine zz_iconst (v := 1) C ddA_fault_17 (by decide) ?_
    refine zz_icmp_ne (tgt := 35) C ddA_fault_18 rfl (fun hc => ?_) (fun hc => ?_)
    · replace h := iteF h hc
      refine zz_bipush (v := (-2)) C ddA_fault_35 (by decide) ?_
      refine zz_loc (L1 := []) [] rfl ?_
      exact zBA_fault_37 hG C N hD hd E h
    · replace h := iteT h hc
      refine zz_aload_n C 0 ddA_fault_21 rfl rfl ?_
      obtain ⟨h1, h⟩ := gdN h
      obtain ⟨h2, h⟩ := gdN h
      refine zz_getr C ddA_fault_22 fl_A_46 rfl h1 (of_decide_eq_true h2) ?_
      refine zz_aload_n C 0 ddA_fault_25 rfl rfl ?_
      obtain ⟨h3, h⟩ := gdN h
      refine zz_getr C ddA_fault_26 fl_A_21 rfl h1 (of_decide_eq_true h3) ?_
      obtain ⟨h5, h⟩ := gdN h
      obtain ⟨q4, hq4, h⟩ := bindN h
      refine zz_callV0 (As := [.ref (grM M v0 1)]) C ddA_fault_29 wd_510 my_S_readFrom mv_S_readFrom ⟨_, rfl, rfl⟩ (xS_readFrom hG (d - 1) (by omega) hq4) (by omega) h5 rfl rfl (Nat.le_of_ble_eq_true rfl) ?_
      refine zz_goto (tgt := 37) C ddA_fault_32 rfl ?_
      refine zz_loc (L1 := []) [] rfl ?_
      exact zBA_fault_37 hG C N hD hd E h
  · replace h := iteT h hc
    refine zz_aload_n C 0 ddA_fault_4 rfl rfl ?_
    obtain ⟨h6, h⟩ := gdN h
    obtain ⟨h7, h⟩ := gdN h
    refine zz_getr C ddA_fault_5 fl_A_32 rfl h6 (of_decide_eq_true h7) ?_
    refine zz_aload_n C 0 ddA_fault_8 rfl rfl ?_
    obtain ⟨h8, h⟩ := gdN h
    refine zz_getr C ddA_fault_9 fl_A_21 rfl h6 (of_decide_eq_true h8) ?_
    obtain ⟨h10, h⟩ := gdN h
    obtain ⟨q9, hq9, h⟩ := bindN h
    refine zz_callV0 (As := [.ref (grM M v0 1)]) C ddA_fault_12 wd_354 my_U_readFrom mv_U_readFrom ⟨_, rfl, rfl⟩ (xU_readFrom hG (d - 1) (by omega) hq9) (by omega) h10 rfl rfl (Nat.le_of_ble_eq_true rfl) ?_
    obtain rfl := Option.some.inj h
    exact zz_iret C E ddA_fault_15
theorem ddU_copyFrom_0 : decode cU_copyFrom 0 = .ok (.aload_n 1, 1) := by decide +kernel
theorem ddU_copyFrom_1 : decode cU_copyFrom 1 = .ok (.getfield 9, 3) := by decide +kernel
theorem ddU_copyFrom_4 : decode cU_copyFrom 4 = .ok (.iconst 0, 1) := by decide +kernel
theorem ddU_copyFrom_5 : decode cU_copyFrom 5 = .ok (.aload_n 0, 1) := by decide +kernel
theorem ddU_copyFrom_6 : decode cU_copyFrom 6 = .ok (.getfield 9, 3) := by decide +kernel
theorem ddU_copyFrom_9 : decode cU_copyFrom 9 = .ok (.iconst 0, 1) := by decide +kernel
theorem ddU_copyFrom_10 : decode cU_copyFrom 10 = .ok (.aload_n 0, 1) := by decide +kernel
theorem ddU_copyFrom_11 : decode cU_copyFrom 11 = .ok (.getfield 9, 3) := by decide +kernel
theorem ddU_copyFrom_14 : decode cU_copyFrom 14 = .ok (.arraylength, 1) := by decide +kernel
theorem ddU_copyFrom_15 : decode cU_copyFrom 15 = .ok (.invokestatic 22, 3) := by decide +kernel
theorem ddU_copyFrom_18 : decode cU_copyFrom 18 = .ok (.aload_n 1, 1) := by decide +kernel
theorem ddU_copyFrom_19 : decode cU_copyFrom 19 = .ok (.getfield 15, 3) := by decide +kernel
theorem ddU_copyFrom_22 : decode cU_copyFrom 22 = .ok (.iconst 0, 1) := by decide +kernel
theorem ddU_copyFrom_23 : decode cU_copyFrom 23 = .ok (.aload_n 0, 1) := by decide +kernel
theorem ddU_copyFrom_24 : decode cU_copyFrom 24 = .ok (.getfield 15, 3) := by decide +kernel
theorem ddU_copyFrom_27 : decode cU_copyFrom 27 = .ok (.iconst 0, 1) := by decide +kernel
theorem ddU_copyFrom_28 : decode cU_copyFrom 28 = .ok (.aload_n 0, 1) := by decide +kernel
theorem ddU_copyFrom_29 : decode cU_copyFrom 29 = .ok (.getfield 15, 3) := by decide +kernel
theorem ddU_copyFrom_32 : decode cU_copyFrom 32 = .ok (.arraylength, 1) := by decide +kernel
theorem ddU_copyFrom_33 : decode cU_copyFrom 33 = .ok (.invokestatic 22, 3) := by decide +kernel
theorem ddU_copyFrom_36 : decode cU_copyFrom 36 = .ok (.aload_n 0, 1) := by decide +kernel
theorem ddU_copyFrom_37 : decode cU_copyFrom 37 = .ok (.aload_n 1, 1) := by decide +kernel
theorem ddU_copyFrom_38 : decode cU_copyFrom 38 = .ok (.getfield 18, 3) := by decide +kernel
theorem ddU_copyFrom_41 : decode cU_copyFrom 41 = .ok (.putfield 18, 3) := by decide +kernel
theorem ddU_copyFrom_44 : decode cU_copyFrom 44 = .ok (.return_, 1) := by decide +kernel
set_option maxHeartbeats 2000000 in
theorem xU_copyFrom {G : GXM} {l : Launch} (hG : GokM G) (d : Nat) (hd : 1 ≤ d) {v0 : Nat} {v1 : Nat} {M : Mem} {q : Mem} (h : fU_copyFrom v0 v1 M = some q) : ExM G l d 0 0 yU_copyFrom cU_copyFrom 2 none [.ref v0, .ref v1] M none q := by
  refine ex_of hG (by decide +kernel) (Nat.le_of_ble_eq_true rfl) ?_
  intro X hl C E N hD hn
  show ZM G X 0 [(0, .ref v0), (1, .ref v1)] [] M 0 0
  unfold fU_copyFrom at h
  refine zz_aload_n C 1 ddU_copyFrom_0 rfl rfl ?_
  obtain ⟨h1, h⟩ := gdN h
  obtain ⟨h2, h⟩ := gdN h
  refine zz_getr C ddU_copyFrom_1 fl_U_9 rfl h1 (of_decide_eq_true h2) ?_
  refine zz_iconst (v := 0) C ddU_copyFrom_4 (by decide) ?_
  refine zz_aload_n C 0 ddU_copyFrom_5 rfl rfl ?_
  obtain ⟨h3, h⟩ := gdN h
  obtain ⟨h4, h⟩ := gdN h
  refine zz_getr C ddU_copyFrom_6 fl_U_9 rfl h3 (of_decide_eq_true h4) ?_
  refine zz_iconst (v := 0) C ddU_copyFrom_9 (by decide) ?_
  refine zz_aload_n C 0 ddU_copyFrom_10 rfl rfl ?_
  refine zz_getr C ddU_copyFrom_11 fl_U_9 rfl h3 (of_decide_eq_true h4) ?_
  obtain ⟨h5, h⟩ := gdN h
  refine zz_alenI C ddU_copyFrom_14 h5 ?_
  obtain ⟨h6, h⟩ := gdN h
  refine zz_copy C ddU_copyFrom_15 wd_360 ⟨wd_362, wd_361, wd_14⟩ h6 (by omega) (Nat.le_of_ble_eq_true rfl) ?_
  refine zz_aload_n C 1 ddU_copyFrom_18 rfl rfl ?_
  obtain ⟨h7, h⟩ := gdN h
  refine zz_getr C ddU_copyFrom_19 fl_U_15 rfl h1 (of_decide_eq_true h7) ?_
  refine zz_iconst (v := 0) C ddU_copyFrom_22 (by decide) ?_
  refine zz_aload_n C 0 ddU_copyFrom_23 rfl rfl ?_
  obtain ⟨h8, h⟩ := gdN h
  refine zz_getr C ddU_copyFrom_24 fl_U_15 rfl h3 (of_decide_eq_true h8) ?_
  refine zz_iconst (v := 0) C ddU_copyFrom_27 (by decide) ?_
  refine zz_aload_n C 0 ddU_copyFrom_28 rfl rfl ?_
  refine zz_getr C ddU_copyFrom_29 fl_U_15 rfl h3 (of_decide_eq_true h8) ?_
  obtain ⟨h9, h⟩ := gdN h
  refine zz_alenI C ddU_copyFrom_32 h9 ?_
  obtain ⟨h10, h⟩ := gdN h
  refine zz_copy C ddU_copyFrom_33 wd_360 ⟨wd_362, wd_361, wd_14⟩ h10 (by omega) (Nat.le_of_ble_eq_true rfl) ?_
  refine zz_aload_n C 0 ddU_copyFrom_36 rfl rfl ?_
  refine zz_aload_n C 1 ddU_copyFrom_37 rfl rfl ?_
  refine zz_geti C ddU_copyFrom_38 fl_U_18 rfl h1 ?_
  refine zz_puti C ddU_copyFrom_41 fl_U_18 rfl rfl rfl h3 ?_
  obtain rfl := Option.some.inj h
  exact zz_vret C E ddU_copyFrom_44
theorem ddY_fill_0 : decode cY_fill 0 = .ok (.iconst 0, 1) := by decide +kernel
theorem ddY_fill_1 : decode cY_fill 1 = .ok (.istore_n 2, 1) := by decide +kernel
theorem ddY_fill_2 : decode cY_fill 2 = .ok (.aload_n 0, 1) := by decide +kernel
theorem ddY_fill_3 : decode cY_fill 3 = .ok (.arraylength, 1) := by decide +kernel
theorem ddY_fill_4 : decode cY_fill 4 = .ok (.istore_n 3, 1) := by decide +kernel
theorem ddY_fill_5 : decode cY_fill 5 = .ok (.iload_n 2, 1) := by decide +kernel
theorem ddY_fill_6 : decode cY_fill 6 = .ok (.iload_n 3, 1) := by decide +kernel
theorem ddY_fill_7 : decode cY_fill 7 = .ok (.if_icmp .ge 13, 3) := by decide +kernel
theorem ddY_fill_10 : decode cY_fill 10 = .ok (.aload_n 0, 1) := by decide +kernel
theorem ddY_fill_11 : decode cY_fill 11 = .ok (.iload_n 2, 1) := by decide +kernel
theorem ddY_fill_12 : decode cY_fill 12 = .ok (.iload_n 1, 1) := by decide +kernel
theorem ddY_fill_13 : decode cY_fill 13 = .ok (.iastore, 1) := by decide +kernel
theorem ddY_fill_14 : decode cY_fill 14 = .ok (.iinc 2 1, 3) := by decide +kernel
theorem ddY_fill_17 : decode cY_fill 17 = .ok (.goto (-12), 3) := by decide +kernel
theorem ddY_fill_20 : decode cY_fill 20 = .ok (.return_, 1) := by decide +kernel
set_option maxHeartbeats 2000000 in
theorem zBY_fill_5 {G : GXM} {X : CxM} (hG : GokM G) (C : CoM G X cY_fill "java/util/Arrays") (N : mLM X = 4) {d : Nat} (hD : dpM X = d) (hd : 0 ≤ d) {v0 : Nat} {v1 : Int32} {v3 : Int32} {K : Nat → Int32 → Int32 → Int32 → Mem → Option ((Mem))} {q : (Mem)} (hK : ∀ (v2 : Int32) (M : Mem), K v0 v1 v2 v3 M = some q → ZM G X 5 [(0, .ref v0), (1, .int v1), (2, .int v2), (3, .int v3)] [] M 0 0) (hr : ∀ r : Mem, q =  r → EnM G X none none r 0 0) {v2 : Int32} {M : Mem} (h : BY_fill_5 K v0 v1 v2 v3 M = some q) : ZM G X 5 [(0, .ref v0), (1, .int v1), (2, .int v2), (3, .int v3)] [] M 0 0 := by
  unfold BY_fill_5 at h
  refine zz_iload_n C 2 ddY_fill_5 rfl rfl ?_
  refine zz_iload_n C 3 ddY_fill_6 rfl rfl ?_
  refine zz_icmp_ge (tgt := 20) C ddY_fill_7 rfl (fun hc => ?_) (fun hc => ?_)
  · replace h := iteT h hc
    exact zz_vret C (hr _ (Option.some.inj h).symm) ddY_fill_20
  · replace h := iteF h hc
    refine zz_aload_n C 0 ddY_fill_10 rfl rfl ?_
    refine zz_iload_n C 2 ddY_fill_11 rfl rfl ?_
    refine zz_iload_n C 1 ddY_fill_12 rfl rfl ?_
    obtain ⟨h1, h⟩ := gdN h
    refine zz_iastore C ddY_fill_13 h1 ?_
    refine zz_iinc (v := v2 + 1) (L1 := [(2, .int (v2 + 1)), (0, .ref v0), (1, .int v1), (3, .int v3)]) C 2 ddY_fill_14 rfl rfl N (by decide) rfl ?_
    refine zz_goto (tgt := 5) C ddY_fill_17 rfl ?_
    refine zz_loc (L1 := [(0, .ref v0), (1, .int v1), (2, .int (v2 + 1)), (3, .int v3)]) [1, 2, 0, 3] rfl ?_
    exact hK _ _ h
set_option maxHeartbeats 2000000 in
theorem zLY_fill_5 {G : GXM} {X : CxM} (hG : GokM G) (C : CoM G X cY_fill "java/util/Arrays") (N : mLM X = 4) {d : Nat} (hD : dpM X = d) (hd : 0 ≤ d) {v0 : Nat} {v1 : Int32} {v3 : Int32} {q : (Mem)} : ∀ (f : Nat) (v2 : Int32) (M : Mem), LY_fill_5 f v0 v1 v2 v3 M = some q → (hr : ∀ r : Mem, q =  r → EnM G X none none r 0 0) → ZM G X 5 [(0, .ref v0), (1, .int v1), (2, .int v2), (3, .int v3)] [] M 0 0 := by
  intro f
  induction f with
  | zero => intro v2 M h; cases h
  | succ f ih =>
    intro v2 M h hr
    exact zBY_fill_5 hG C N hD hd (K := LY_fill_5 f) (q := q) (fun v2 M h => ih v2 M h hr) hr h
set_option maxHeartbeats 2000000 in
theorem xY_fill {G : GXM} {l : Launch} (hG : GokM G) (d : Nat) (hd : 0 ≤ d) {v0 : Nat} {v1 : Int32} {M : Mem} {q : Mem} (h : fY_fill v0 v1 M = some q) : ExM G l d 0 0 yY_fill cY_fill 4 none [.ref v0, .int v1] M none q := by
  refine ex_of hG (by decide +kernel) (Nat.le_of_ble_eq_true rfl) ?_
  intro X hl C E N hD hn
  show ZM G X 0 [(0, .ref v0), (1, .int v1)] [] M 0 0
  unfold fY_fill at h
  refine zz_iconst (v := 0) C ddY_fill_0 (by decide) ?_
  refine zz_istore_n (L1 := [(2, .int 0), (0, .ref v0), (1, .int v1)]) C ddY_fill_1 rfl N (by decide) rfl ?_
  refine zz_aload_n C 1 ddY_fill_2 rfl rfl ?_
  obtain ⟨h1, h⟩ := gdN h
  refine zz_alenI C ddY_fill_3 h1 ?_
  refine zz_istore_n (L1 := [(3, .int (Int32.ofNat (tgM M v0).2)), (2, .int 0), (0, .ref v0), (1, .int v1)]) C ddY_fill_4 rfl N (by decide) rfl ?_
  refine zz_loc (L1 := [(0, .ref v0), (1, .int v1), (2, .int 0), (3, .int (Int32.ofNat (tgM M v0).2))]) [2, 3, 1, 0] rfl ?_
  obtain ⟨q2, hq2, h⟩ := bindN h
  refine zLY_fill_5 hG C N hD hd 1000000 _ _ hq2 ?_
  · intro r3 eq2; replace eq2 := eq2.symm; subst eq2
    obtain rfl := Option.some.inj h
    exact E
theorem ddC_clearAll_0 : decode cC_clearAll 0 = .ok (.aload_n 0, 1) := by decide +kernel
theorem ddC_clearAll_1 : decode cC_clearAll 1 = .ok (.getfield 9, 3) := by decide +kernel
theorem ddC_clearAll_4 : decode cC_clearAll 4 = .ok (.iconst (-1), 1) := by decide +kernel
theorem ddC_clearAll_5 : decode cC_clearAll 5 = .ok (.invokestatic 24, 3) := by decide +kernel
theorem ddC_clearAll_8 : decode cC_clearAll 8 = .ok (.aload_n 0, 1) := by decide +kernel
theorem ddC_clearAll_9 : decode cC_clearAll 9 = .ok (.getfield 15, 3) := by decide +kernel
theorem ddC_clearAll_12 : decode cC_clearAll 12 = .ok (.iconst 0, 1) := by decide +kernel
theorem ddC_clearAll_13 : decode cC_clearAll 13 = .ok (.invokestatic 24, 3) := by decide +kernel
theorem ddC_clearAll_16 : decode cC_clearAll 16 = .ok (.aload_n 0, 1) := by decide +kernel
theorem ddC_clearAll_17 : decode cC_clearAll 17 = .ok (.getfield 18, 3) := by decide +kernel
theorem ddC_clearAll_20 : decode cC_clearAll 20 = .ok (.iconst (-1), 1) := by decide +kernel
theorem ddC_clearAll_21 : decode cC_clearAll 21 = .ok (.invokestatic 24, 3) := by decide +kernel
theorem ddC_clearAll_24 : decode cC_clearAll 24 = .ok (.aload_n 0, 1) := by decide +kernel
theorem ddC_clearAll_25 : decode cC_clearAll 25 = .ok (.getfield 21, 3) := by decide +kernel
theorem ddC_clearAll_28 : decode cC_clearAll 28 = .ok (.iconst (-1), 1) := by decide +kernel
theorem ddC_clearAll_29 : decode cC_clearAll 29 = .ok (.invokestatic 24, 3) := by decide +kernel
theorem ddC_clearAll_32 : decode cC_clearAll 32 = .ok (.return_, 1) := by decide +kernel
set_option maxHeartbeats 2000000 in
theorem xC_clearAll {G : GXM} {l : Launch} (hG : GokM G) (d : Nat) (hd : 1 ≤ d) {v0 : Nat} {M : Mem} {q : Mem} (h : fC_clearAll v0 M = some q) : ExM G l d 0 0 yC_clearAll cC_clearAll 1 none [.ref v0] M none q := by
  refine ex_of hG (by decide +kernel) (Nat.le_of_ble_eq_true rfl) ?_
  intro X hl C E N hD hn
  show ZM G X 0 [(0, .ref v0)] [] M 0 0
  unfold fC_clearAll at h
  refine zz_aload_n C 0 ddC_clearAll_0 rfl rfl ?_
  obtain ⟨h1, h⟩ := gdN h
  obtain ⟨h2, h⟩ := gdN h
  refine zz_getr C ddC_clearAll_1 fl_C_9 rfl h1 (of_decide_eq_true h2) ?_
  refine zz_iconst (v := (-1)) C ddC_clearAll_4 (by decide) ?_
  obtain ⟨q3, hq3, h⟩ := bindN h
  refine zz_callS0 (As := [.ref (grM M v0 0), .int ((-1))]) C ddC_clearAll_5 wd_130 my_Y_fill mv_Y_fill (xY_fill hG (d - 1) (by omega) hq3) (by omega) rfl rfl (Nat.le_of_ble_eq_true rfl) ?_
  refine zz_aload_n C 0 ddC_clearAll_8 rfl rfl ?_
  obtain ⟨h4, h⟩ := gdN h
  obtain ⟨h5, h⟩ := gdN h
  refine zz_getr C ddC_clearAll_9 fl_C_15 rfl h4 (of_decide_eq_true h5) ?_
  refine zz_iconst (v := 0) C ddC_clearAll_12 (by decide) ?_
  obtain ⟨q6, hq6, h⟩ := bindN h
  refine zz_callS0 (As := [.ref (grM q3 v0 1), .int 0]) C ddC_clearAll_13 wd_130 my_Y_fill mv_Y_fill (xY_fill hG (d - 1) (by omega) hq6) (by omega) rfl rfl (Nat.le_of_ble_eq_true rfl) ?_
  refine zz_aload_n C 0 ddC_clearAll_16 rfl rfl ?_
  obtain ⟨h7, h⟩ := gdN h
  obtain ⟨h8, h⟩ := gdN h
  refine zz_getr C ddC_clearAll_17 fl_C_18 rfl h7 (of_decide_eq_true h8) ?_
  refine zz_iconst (v := (-1)) C ddC_clearAll_20 (by decide) ?_
  obtain ⟨q9, hq9, h⟩ := bindN h
  refine zz_callS0 (As := [.ref (grM q6 v0 2), .int ((-1))]) C ddC_clearAll_21 wd_130 my_Y_fill mv_Y_fill (xY_fill hG (d - 1) (by omega) hq9) (by omega) rfl rfl (Nat.le_of_ble_eq_true rfl) ?_
  refine zz_aload_n C 0 ddC_clearAll_24 rfl rfl ?_
  obtain ⟨h10, h⟩ := gdN h
  obtain ⟨h11, h⟩ := gdN h
  refine zz_getr C ddC_clearAll_25 fl_C_21 rfl h10 (of_decide_eq_true h11) ?_
  refine zz_iconst (v := (-1)) C ddC_clearAll_28 (by decide) ?_
  obtain ⟨q12, hq12, h⟩ := bindN h
  refine zz_callS0 (As := [.ref (grM q9 v0 3), .int ((-1))]) C ddC_clearAll_29 wd_130 my_Y_fill mv_Y_fill (xY_fill hG (d - 1) (by omega) hq12) (by omega) rfl rfl (Nat.le_of_ble_eq_true rfl) ?_
  obtain rfl := Option.some.inj h
  exact zz_vret C E ddC_clearAll_32
theorem ddH_makeNew_0 : decode cH_makeNew 0 = .ok (.aload_n 0, 1) := by decide +kernel
theorem ddH_makeNew_1 : decode cH_makeNew 1 = .ok (.getfield 9, 3) := by decide +kernel
theorem ddH_makeNew_4 : decode cH_makeNew 4 = .ok (.iconst (-1), 1) := by decide +kernel
theorem ddH_makeNew_5 : decode cH_makeNew 5 = .ok (.invokestatic 50, 3) := by decide +kernel
theorem ddH_makeNew_8 : decode cH_makeNew 8 = .ok (.aload_n 0, 1) := by decide +kernel
theorem ddH_makeNew_9 : decode cH_makeNew 9 = .ok (.getfield 15, 3) := by decide +kernel
theorem ddH_makeNew_12 : decode cH_makeNew 12 = .ok (.iconst (-1), 1) := by decide +kernel
theorem ddH_makeNew_13 : decode cH_makeNew 13 = .ok (.invokestatic 50, 3) := by decide +kernel
theorem ddH_makeNew_16 : decode cH_makeNew 16 = .ok (.aload_n 0, 1) := by decide +kernel
theorem ddH_makeNew_17 : decode cH_makeNew 17 = .ok (.getfield 18, 3) := by decide +kernel
theorem ddH_makeNew_20 : decode cH_makeNew 20 = .ok (.iconst 0, 1) := by decide +kernel
theorem ddH_makeNew_21 : decode cH_makeNew 21 = .ok (.invokestatic 50, 3) := by decide +kernel
theorem ddH_makeNew_24 : decode cH_makeNew 24 = .ok (.aload_n 0, 1) := by decide +kernel
theorem ddH_makeNew_25 : decode cH_makeNew 25 = .ok (.getfield 26, 3) := by decide +kernel
theorem ddH_makeNew_28 : decode cH_makeNew 28 = .ok (.invokevirtual 56, 3) := by decide +kernel
theorem ddH_makeNew_31 : decode cH_makeNew 31 = .ok (.aload_n 0, 1) := by decide +kernel
theorem ddH_makeNew_32 : decode cH_makeNew 32 = .ok (.getfield 30, 3) := by decide +kernel
theorem ddH_makeNew_35 : decode cH_makeNew 35 = .ok (.invokevirtual 56, 3) := by decide +kernel
theorem ddH_makeNew_38 : decode cH_makeNew 38 = .ok (.aload_n 0, 1) := by decide +kernel
theorem ddH_makeNew_39 : decode cH_makeNew 39 = .ok (.getfield 33, 3) := by decide +kernel
theorem ddH_makeNew_42 : decode cH_makeNew 42 = .ok (.iconst 1, 1) := by decide +kernel
theorem ddH_makeNew_43 : decode cH_makeNew 43 = .ok (.invokestatic 50, 3) := by decide +kernel
theorem ddH_makeNew_46 : decode cH_makeNew 46 = .ok (.aload_n 0, 1) := by decide +kernel
theorem ddH_makeNew_47 : decode cH_makeNew 47 = .ok (.getfield 36, 3) := by decide +kernel
theorem ddH_makeNew_50 : decode cH_makeNew 50 = .ok (.iconst 0, 1) := by decide +kernel
theorem ddH_makeNew_51 : decode cH_makeNew 51 = .ok (.invokestatic 50, 3) := by decide +kernel
theorem ddH_makeNew_54 : decode cH_makeNew 54 = .ok (.aload_n 0, 1) := by decide +kernel
theorem ddH_makeNew_55 : decode cH_makeNew 55 = .ok (.getfield 42, 3) := by decide +kernel
theorem ddH_makeNew_58 : decode cH_makeNew 58 = .ok (.iconst 0, 1) := by decide +kernel
theorem ddH_makeNew_59 : decode cH_makeNew 59 = .ok (.putfield 59, 3) := by decide +kernel
theorem ddH_makeNew_62 : decode cH_makeNew 62 = .ok (.return_, 1) := by decide +kernel
set_option maxHeartbeats 2000000 in
theorem xH_makeNew {G : GXM} {l : Launch} (hG : GokM G) (d : Nat) (hd : 2 ≤ d) {v0 : Nat} {M : Mem} {q : Mem} (h : fH_makeNew v0 M = some q) : ExM G l d 0 0 yH_makeNew cH_makeNew 1 none [.ref v0] M none q := by
  refine ex_of hG (by decide +kernel) (Nat.le_of_ble_eq_true rfl) ?_
  intro X hl C E N hD hn
  show ZM G X 0 [(0, .ref v0)] [] M 0 0
  unfold fH_makeNew at h
  refine zz_aload_n C 0 ddH_makeNew_0 rfl rfl ?_
  obtain ⟨h1, h⟩ := gdN h
  obtain ⟨h2, h⟩ := gdN h
  refine zz_getr C ddH_makeNew_1 fl_H_9 rfl h1 (of_decide_eq_true h2) ?_
  refine zz_iconst (v := (-1)) C ddH_makeNew_4 (by decide) ?_
  obtain ⟨q3, hq3, h⟩ := bindN h
  refine zz_callS0 (As := [.ref (grM M v0 1), .int ((-1))]) C ddH_makeNew_5 wd_166 my_Y_fill mv_Y_fill (xY_fill hG (d - 1) (by omega) hq3) (by omega) rfl rfl (Nat.le_of_ble_eq_true rfl) ?_
  refine zz_aload_n C 0 ddH_makeNew_8 rfl rfl ?_
  obtain ⟨h4, h⟩ := gdN h
  obtain ⟨h5, h⟩ := gdN h
  refine zz_getr C ddH_makeNew_9 fl_H_15 rfl h4 (of_decide_eq_true h5) ?_
  refine zz_iconst (v := (-1)) C ddH_makeNew_12 (by decide) ?_
  obtain ⟨q6, hq6, h⟩ := bindN h
  refine zz_callS0 (As := [.ref (grM q3 v0 2), .int ((-1))]) C ddH_makeNew_13 wd_166 my_Y_fill mv_Y_fill (xY_fill hG (d - 1) (by omega) hq6) (by omega) rfl rfl (Nat.le_of_ble_eq_true rfl) ?_
  refine zz_aload_n C 0 ddH_makeNew_16 rfl rfl ?_
  obtain ⟨h7, h⟩ := gdN h
  obtain ⟨h8, h⟩ := gdN h
  refine zz_getr C ddH_makeNew_17 fl_H_18 rfl h7 (of_decide_eq_true h8) ?_
  refine zz_iconst (v := 0) C ddH_makeNew_20 (by decide) ?_
  obtain ⟨q9, hq9, h⟩ := bindN h
  refine zz_callS0 (As := [.ref (grM q6 v0 3), .int 0]) C ddH_makeNew_21 wd_166 my_Y_fill mv_Y_fill (xY_fill hG (d - 1) (by omega) hq9) (by omega) rfl rfl (Nat.le_of_ble_eq_true rfl) ?_
  refine zz_aload_n C 0 ddH_makeNew_24 rfl rfl ?_
  obtain ⟨h10, h⟩ := gdN h
  obtain ⟨h11, h⟩ := gdN h
  refine zz_getr C ddH_makeNew_25 fl_H_26 rfl h10 (of_decide_eq_true h11) ?_
  obtain ⟨h13, h⟩ := gdN h
  obtain ⟨q12, hq12, h⟩ := bindN h
  refine zz_callV0 (As := []) C ddH_makeNew_28 wd_545 my_C_clearAll mv_C_clearAll ⟨_, rfl, rfl⟩ (xC_clearAll hG (d - 1) (by omega) hq12) (by omega) h13 rfl rfl (Nat.le_of_ble_eq_true rfl) ?_
  refine zz_aload_n C 0 ddH_makeNew_31 rfl rfl ?_
  obtain ⟨h14, h⟩ := gdN h
  obtain ⟨h15, h⟩ := gdN h
  refine zz_getr C ddH_makeNew_32 fl_H_30 rfl h14 (of_decide_eq_true h15) ?_
  obtain ⟨h17, h⟩ := gdN h
  obtain ⟨q16, hq16, h⟩ := bindN h
  refine zz_callV0 (As := []) C ddH_makeNew_35 wd_545 my_C_clearAll mv_C_clearAll ⟨_, rfl, rfl⟩ (xC_clearAll hG (d - 1) (by omega) hq16) (by omega) h17 rfl rfl (Nat.le_of_ble_eq_true rfl) ?_
  refine zz_aload_n C 0 ddH_makeNew_38 rfl rfl ?_
  obtain ⟨h18, h⟩ := gdN h
  obtain ⟨h19, h⟩ := gdN h
  refine zz_getr C ddH_makeNew_39 fl_H_33 rfl h18 (of_decide_eq_true h19) ?_
  refine zz_iconst (v := 1) C ddH_makeNew_42 (by decide) ?_
  obtain ⟨q20, hq20, h⟩ := bindN h
  refine zz_callS0 (As := [.ref (grM q16 v0 6), .int 1]) C ddH_makeNew_43 wd_166 my_Y_fill mv_Y_fill (xY_fill hG (d - 1) (by omega) hq20) (by omega) rfl rfl (Nat.le_of_ble_eq_true rfl) ?_
  refine zz_aload_n C 0 ddH_makeNew_46 rfl rfl ?_
  obtain ⟨h21, h⟩ := gdN h
  obtain ⟨h22, h⟩ := gdN h
  refine zz_getr C ddH_makeNew_47 fl_H_36 rfl h21 (of_decide_eq_true h22) ?_
  refine zz_iconst (v := 0) C ddH_makeNew_50 (by decide) ?_
  obtain ⟨q23, hq23, h⟩ := bindN h
  refine zz_callS0 (As := [.ref (grM q20 v0 7), .int 0]) C ddH_makeNew_51 wd_166 my_Y_fill mv_Y_fill (xY_fill hG (d - 1) (by omega) hq23) (by omega) rfl rfl (Nat.le_of_ble_eq_true rfl) ?_
  refine zz_aload_n C 0 ddH_makeNew_54 rfl rfl ?_
  obtain ⟨h24, h⟩ := gdN h
  obtain ⟨h25, h⟩ := gdN h
  refine zz_getr C ddH_makeNew_55 fl_H_42 rfl h24 (of_decide_eq_true h25) ?_
  refine zz_iconst (v := 0) C ddH_makeNew_58 (by decide) ?_
  obtain ⟨h26, h⟩ := gdN h
  refine zz_puti C ddH_makeNew_59 fl_H_59 rfl rfl rfl h26 ?_
  obtain rfl := Option.some.inj h
  exact zz_vret C E ddH_makeNew_62
