theorem ddH_livingBits_0 : decode cH_livingBits 0 = .ok (.iconst 0, 1) := by decide +kernel
theorem ddH_livingBits_1 : decode cH_livingBits 1 = .ok (.istore_n 1, 1) := by decide +kernel
theorem ddH_livingBits_2 : decode cH_livingBits 2 = .ok (.iconst 0, 1) := by decide +kernel
theorem ddH_livingBits_3 : decode cH_livingBits 3 = .ok (.istore_n 2, 1) := by decide +kernel
theorem ddH_livingBits_4 : decode cH_livingBits 4 = .ok (.iload_n 2, 1) := by decide +kernel
theorem ddH_livingBits_5 : decode cH_livingBits 5 = .ok (.aload_n 0, 1) := by decide +kernel
theorem ddH_livingBits_6 : decode cH_livingBits 6 = .ok (.getfield 46, 3) := by decide +kernel
theorem ddH_livingBits_9 : decode cH_livingBits 9 = .ok (.getfield 76, 3) := by decide +kernel
theorem ddH_livingBits_12 : decode cH_livingBits 12 = .ok (.iconst 0, 1) := by decide +kernel
theorem ddH_livingBits_13 : decode cH_livingBits 13 = .ok (.iaload, 1) := by decide +kernel
theorem ddH_livingBits_14 : decode cH_livingBits 14 = .ok (.if_icmp .ge 20, 3) := by decide +kernel
theorem ddH_livingBits_17 : decode cH_livingBits 17 = .ok (.iload_n 1, 1) := by decide +kernel
theorem ddH_livingBits_18 : decode cH_livingBits 18 = .ok (.aload_n 0, 1) := by decide +kernel
theorem ddH_livingBits_19 : decode cH_livingBits 19 = .ok (.getfield 33, 3) := by decide +kernel
theorem ddH_livingBits_22 : decode cH_livingBits 22 = .ok (.iload_n 2, 1) := by decide +kernel
theorem ddH_livingBits_23 : decode cH_livingBits 23 = .ok (.iaload, 1) := by decide +kernel
theorem ddH_livingBits_24 : decode cH_livingBits 24 = .ok (.iload_n 2, 1) := by decide +kernel
theorem ddH_livingBits_25 : decode cH_livingBits 25 = .ok (.ishl, 1) := by decide +kernel
theorem ddH_livingBits_26 : decode cH_livingBits 26 = .ok (.ior, 1) := by decide +kernel
theorem ddH_livingBits_27 : decode cH_livingBits 27 = .ok (.istore_n 1, 1) := by decide +kernel
theorem ddH_livingBits_28 : decode cH_livingBits 28 = .ok (.iinc 2 1, 3) := by decide +kernel
theorem ddH_livingBits_31 : decode cH_livingBits 31 = .ok (.goto (-27), 3) := by decide +kernel
theorem ddH_livingBits_34 : decode cH_livingBits 34 = .ok (.iload_n 1, 1) := by decide +kernel
theorem ddH_livingBits_35 : decode cH_livingBits 35 = .ok (.ireturn, 1) := by decide +kernel
set_option maxHeartbeats 2000000 in
theorem zBH_livingBits_4 {G : GXM} {X : CxM} (hG : GokM G) (C : CoM G X cH_livingBits "HomeFreed$Heap") (N : mLM X = 3) {d : Nat} (hD : dpM X = d) (hd : 0 ≤ d) {v0 : Nat} {K : Nat → Int32 → Int32 → Mem → Option ((Int32 × Mem))} {q : (Int32 × Mem)} (hK : ∀ (v1 : Int32) (v2 : Int32) (M : Mem), K v0 v1 v2 M = some q → ZM G X 4 [(0, .ref v0), (1, .int v1), (2, .int v2)] [] M 0 0) (hr : ∀ r : Int32 × Mem, q =  r → EnM G X (some .int) (some (.int r.1)) r.2 0 0) {v1 : Int32} {v2 : Int32} {M : Mem} (h : BH_livingBits_4 K v0 v1 v2 M = some q) : ZM G X 4 [(0, .ref v0), (1, .int v1), (2, .int v2)] [] M 0 0 := by
  unfold BH_livingBits_4 at h
  refine zz_iload_n C 2 ddH_livingBits_4 rfl rfl ?_
  refine zz_aload_n C 0 ddH_livingBits_5 rfl rfl ?_
  obtain ⟨h1, h⟩ := gdN h
  obtain ⟨h2, h⟩ := gdN h
  refine zz_getr C ddH_livingBits_6 fl_H_46 rfl h1 (of_decide_eq_true h2) ?_
  obtain ⟨h3, h⟩ := gdN h
  obtain ⟨h4, h⟩ := gdN h
  refine zz_getr C ddH_livingBits_9 fl_H_76 rfl h3 (of_decide_eq_true h4) ?_
  refine zz_iconst (v := 0) C ddH_livingBits_12 (by decide) ?_
  obtain ⟨h5, h⟩ := gdN h
  refine zz_iaload C ddH_livingBits_13 h5 ?_
  refine zz_icmp_ge (tgt := 34) C ddH_livingBits_14 rfl (fun hc => ?_) (fun hc => ?_)
  · replace h := iteT h hc
    refine zz_iload_n C 1 ddH_livingBits_34 rfl rfl ?_
    exact zz_iret C (hr _ (Option.some.inj h).symm) ddH_livingBits_35
  · replace h := iteF h hc
    refine zz_iload_n C 1 ddH_livingBits_17 rfl rfl ?_
    refine zz_aload_n C 0 ddH_livingBits_18 rfl rfl ?_
    obtain ⟨h6, h⟩ := gdN h
    refine zz_getr C ddH_livingBits_19 fl_H_33 rfl h1 (of_decide_eq_true h6) ?_
    refine zz_iload_n C 2 ddH_livingBits_22 rfl rfl ?_
    obtain ⟨h7, h⟩ := gdN h
    refine zz_iaload C ddH_livingBits_23 h7 ?_
    refine zz_iload_n C 2 ddH_livingBits_24 rfl rfl ?_
    refine zz_ishl C ddH_livingBits_25 ?_
    refine zz_ior C ddH_livingBits_26 ?_
    refine zz_istore_n (L1 := [(1, .int (v1 ||| ((giM M (grM M v0 6) (Int32.toNatClampNeg v2)) <<< (v2 &&& 31)))), (0, .ref v0), (2, .int v2)]) C ddH_livingBits_27 rfl N (by decide) rfl ?_
    refine zz_iinc (v := v2 + 1) (L1 := [(2, .int (v2 + 1)), (1, .int (v1 ||| ((giM M (grM M v0 6) (Int32.toNatClampNeg v2)) <<< (v2 &&& 31)))), (0, .ref v0)]) C 2 ddH_livingBits_28 rfl rfl N (by decide) rfl ?_
    refine zz_goto (tgt := 4) C ddH_livingBits_31 rfl ?_
    refine zz_loc (L1 := [(0, .ref v0), (1, .int (v1 ||| ((giM M (grM M v0 6) (Int32.toNatClampNeg v2)) <<< (v2 &&& 31)))), (2, .int (v2 + 1))]) [2, 1, 0] rfl ?_
    exact hK _ _ _ h
set_option maxHeartbeats 2000000 in
theorem zLH_livingBits_4 {G : GXM} {X : CxM} (hG : GokM G) (C : CoM G X cH_livingBits "HomeFreed$Heap") (N : mLM X = 3) {d : Nat} (hD : dpM X = d) (hd : 0 ≤ d) {v0 : Nat} {q : (Int32 × Mem)} : ∀ (f : Nat) (v1 : Int32) (v2 : Int32) (M : Mem), LH_livingBits_4 f v0 v1 v2 M = some q → (hr : ∀ r : Int32 × Mem, q =  r → EnM G X (some .int) (some (.int r.1)) r.2 0 0) → ZM G X 4 [(0, .ref v0), (1, .int v1), (2, .int v2)] [] M 0 0 := by
  intro f
  induction f with
  | zero => intro v1 v2 M h; cases h
  | succ f ih =>
    intro v1 v2 M h hr
    exact zBH_livingBits_4 hG C N hD hd (K := LH_livingBits_4 f) (q := q) (fun v1 v2 M h => ih v1 v2 M h hr) hr h
set_option maxHeartbeats 2000000 in
theorem xH_livingBits {G : GXM} {l : Launch} (hG : GokM G) (d : Nat) (hd : 0 ≤ d) {v0 : Nat} {M : Mem} {q : Int32 × Mem} (h : fH_livingBits v0 M = some q) : ExM G l d 0 0 yH_livingBits cH_livingBits 3 (some .int) [.ref v0] M (some (.int q.1)) q.2 := by
  refine ex_of hG (by decide +kernel) (Nat.le_of_ble_eq_true rfl) ?_
  intro X hl C E N hD hn
  show ZM G X 0 [(0, .ref v0)] [] M 0 0
  unfold fH_livingBits at h
  refine zz_iconst (v := 0) C ddH_livingBits_0 (by decide) ?_
  refine zz_istore_n (L1 := [(1, .int 0), (0, .ref v0)]) C ddH_livingBits_1 rfl N (by decide) rfl ?_
  refine zz_iconst (v := 0) C ddH_livingBits_2 (by decide) ?_
  refine zz_istore_n (L1 := [(2, .int 0), (1, .int 0), (0, .ref v0)]) C ddH_livingBits_3 rfl N (by decide) rfl ?_
  refine zz_loc (L1 := [(0, .ref v0), (1, .int 0), (2, .int 0)]) [2, 1, 0] rfl ?_
  obtain ⟨q1, hq1, h⟩ := bindN h
  refine zLH_livingBits_4 hG C N hD hd 1000000 _ _ _ hq1 ?_
  · intro r2 eq1; replace eq1 := eq1.symm; subst eq1
    obtain rfl := Option.some.inj h
    exact E
theorem ddH_stateOf_0 : decode cH_stateOf 0 = .ok (.aload_n 0, 1) := by decide +kernel
theorem ddH_stateOf_1 : decode cH_stateOf 1 = .ok (.getfield 9, 3) := by decide +kernel
theorem ddH_stateOf_4 : decode cH_stateOf 4 = .ok (.iload_n 1, 1) := by decide +kernel
theorem ddH_stateOf_5 : decode cH_stateOf 5 = .ok (.iaload, 1) := by decide +kernel
theorem ddH_stateOf_6 : decode cH_stateOf 6 = .ok (.iconst (-1), 1) := by decide +kernel
theorem ddH_stateOf_7 : decode cH_stateOf 7 = .ok (.if_icmp .ne 5, 3) := by decide +kernel
theorem ddH_stateOf_10 : decode cH_stateOf 10 = .ok (.iconst 0, 1) := by decide +kernel
theorem ddH_stateOf_11 : decode cH_stateOf 11 = .ok (.ireturn, 1) := by decide +kernel
theorem ddH_stateOf_12 : decode cH_stateOf 12 = .ok (.aload_n 0, 1) := by decide +kernel
theorem ddH_stateOf_13 : decode cH_stateOf 13 = .ok (.getfield 15, 3) := by decide +kernel
theorem ddH_stateOf_16 : decode cH_stateOf 16 = .ok (.iload_n 1, 1) := by decide +kernel
theorem ddH_stateOf_17 : decode cH_stateOf 17 = .ok (.iaload, 1) := by decide +kernel
theorem ddH_stateOf_18 : decode cH_stateOf 18 = .ok (.iconst (-1), 1) := by decide +kernel
theorem ddH_stateOf_19 : decode cH_stateOf 19 = .ok (.if_icmp .ne 5, 3) := by decide +kernel
theorem ddH_stateOf_22 : decode cH_stateOf 22 = .ok (.iconst 3, 1) := by decide +kernel
theorem ddH_stateOf_23 : decode cH_stateOf 23 = .ok (.ireturn, 1) := by decide +kernel
theorem ddH_stateOf_24 : decode cH_stateOf 24 = .ok (.aload_n 0, 1) := by decide +kernel
theorem ddH_stateOf_25 : decode cH_stateOf 25 = .ok (.getfield 26, 3) := by decide +kernel
theorem ddH_stateOf_28 : decode cH_stateOf 28 = .ok (.getfield 88, 3) := by decide +kernel
theorem ddH_stateOf_31 : decode cH_stateOf 31 = .ok (.iload_n 1, 1) := by decide +kernel
theorem ddH_stateOf_32 : decode cH_stateOf 32 = .ok (.iaload, 1) := by decide +kernel
theorem ddH_stateOf_33 : decode cH_stateOf 33 = .ok (.iconst (-1), 1) := by decide +kernel
theorem ddH_stateOf_34 : decode cH_stateOf 34 = .ok (.if_icmp .ne 7, 3) := by decide +kernel
theorem ddH_stateOf_37 : decode cH_stateOf 37 = .ok (.iconst 2, 1) := by decide +kernel
theorem ddH_stateOf_38 : decode cH_stateOf 38 = .ok (.goto 4, 3) := by decide +kernel
theorem ddH_stateOf_41 : decode cH_stateOf 41 = .ok (.iconst 1, 1) := by decide +kernel
theorem ddH_stateOf_42 : decode cH_stateOf 42 = .ok (.ireturn, 1) := by decide +kernel
set_option maxHeartbeats 2000000 in
theorem zBH_stateOf_42 {G : GXM} {X : CxM} (hG : GokM G) (C : CoM G X cH_stateOf "HomeFreed$Heap") (N : mLM X = 2) {d : Nat} (hD : dpM X = d) (hd : 0 ≤ d)  {q : Int32 × Mem} (E : EnM G X (some .int) (some (.int q.1)) q.2 0 0) {w0 : Int32} {M : Mem} (h : BH_stateOf_42 w0 M = some q) : ZM G X 42 [] [.int w0] M 0 0 := by
  unfold BH_stateOf_42 at h
  obtain rfl := Option.some.inj h
  exact zz_iret C E ddH_stateOf_42
set_option maxHeartbeats 2000000 in
theorem xH_stateOf {G : GXM} {l : Launch} (hG : GokM G) (d : Nat) (hd : 0 ≤ d) {v0 : Nat} {v1 : Int32} {M : Mem} {q : Int32 × Mem} (h : fH_stateOf v0 v1 M = some q) : ExM G l d 0 0 yH_stateOf cH_stateOf 2 (some .int) [.ref v0, .int v1] M (some (.int q.1)) q.2 := by
  refine ex_of hG (by decide +kernel) (Nat.le_of_ble_eq_true rfl) ?_
  intro X hl C E N hD hn
  show ZM G X 0 [(0, .ref v0), (1, .int v1)] [] M 0 0
  unfold fH_stateOf at h
  refine zz_aload_n C 0 ddH_stateOf_0 rfl rfl ?_
  obtain ⟨h1, h⟩ := gdN h
  obtain ⟨h2, h⟩ := gdN h
  refine zz_getr C ddH_stateOf_1 fl_H_9 rfl h1 (of_decide_eq_true h2) ?_
  refine zz_iload_n C 1 ddH_stateOf_4 rfl rfl ?_
  obtain ⟨h3, h⟩ := gdN h
  refine zz_iaload C ddH_stateOf_5 h3 ?_
  refine zz_iconst (v := (-1)) C ddH_stateOf_6 (by decide) ?_
  refine zz_icmp_ne (tgt := 12) C ddH_stateOf_7 rfl (fun hc => ?_) (fun hc => ?_)
  · replace h := iteF h hc
    refine zz_aload_n C 0 ddH_stateOf_12 rfl rfl ?_
    obtain ⟨h4, h⟩ := gdN h
    refine zz_getr C ddH_stateOf_13 fl_H_15 rfl h1 (of_decide_eq_true h4) ?_
    refine zz_iload_n C 1 ddH_stateOf_16 rfl rfl ?_
    obtain ⟨h5, h⟩ := gdN h
    refine zz_iaload C ddH_stateOf_17 h5 ?_
    refine zz_iconst (v := (-1)) C ddH_stateOf_18 (by decide) ?_
    refine zz_icmp_ne (tgt := 24) C ddH_stateOf_19 rfl (fun hc => ?_) (fun hc => ?_)
    · replace h := iteF h hc
      refine zz_aload_n C 0 ddH_stateOf_24 rfl rfl ?_
      obtain ⟨h6, h⟩ := gdN h
      refine zz_getr C ddH_stateOf_25 fl_H_26 rfl h1 (of_decide_eq_true h6) ?_
      obtain ⟨h7, h⟩ := gdN h
      obtain ⟨h8, h⟩ := gdN h
      refine zz_getr C ddH_stateOf_28 fl_H_88 rfl h7 (of_decide_eq_true h8) ?_
      refine zz_iload_n C 1 ddH_stateOf_31 rfl rfl ?_
      obtain ⟨h9, h⟩ := gdN h
      refine zz_iaload C ddH_stateOf_32 h9 ?_
      refine zz_iconst (v := (-1)) C ddH_stateOf_33 (by decide) ?_
      refine zz_icmp_ne (tgt := 41) C ddH_stateOf_34 rfl (fun hc => ?_) (fun hc => ?_)
      · replace h := iteF h hc
        refine zz_iconst (v := 1) C ddH_stateOf_41 (by decide) ?_
        refine zz_loc (L1 := []) [] rfl ?_
        exact zBH_stateOf_42 hG C N hD hd E h
      · replace h := iteT h hc
        refine zz_iconst (v := 2) C ddH_stateOf_37 (by decide) ?_
        refine zz_goto (tgt := 42) C ddH_stateOf_38 rfl ?_
        refine zz_loc (L1 := []) [] rfl ?_
        exact zBH_stateOf_42 hG C N hD hd E h
    · replace h := iteT h hc
      refine zz_iconst (v := 3) C ddH_stateOf_22 (by decide) ?_
      obtain rfl := Option.some.inj h
      exact zz_iret C E ddH_stateOf_23
  · replace h := iteT h hc
    refine zz_iconst (v := 0) C ddH_stateOf_10 (by decide) ?_
    obtain rfl := Option.some.inj h
    exact zz_iret C E ddH_stateOf_11
theorem ddH_bitsOf_0 : decode cH_bitsOf 0 = .ok (.iconst 0, 1) := by decide +kernel
theorem ddH_bitsOf_1 : decode cH_bitsOf 1 = .ok (.istore_n 2, 1) := by decide +kernel
theorem ddH_bitsOf_2 : decode cH_bitsOf 2 = .ok (.iconst 0, 1) := by decide +kernel
theorem ddH_bitsOf_3 : decode cH_bitsOf 3 = .ok (.istore_n 3, 1) := by decide +kernel
theorem ddH_bitsOf_4 : decode cH_bitsOf 4 = .ok (.iload_n 3, 1) := by decide +kernel
theorem ddH_bitsOf_5 : decode cH_bitsOf 5 = .ok (.aload_n 0, 1) := by decide +kernel
theorem ddH_bitsOf_6 : decode cH_bitsOf 6 = .ok (.getfield 46, 3) := by decide +kernel
theorem ddH_bitsOf_9 : decode cH_bitsOf 9 = .ok (.getfield 76, 3) := by decide +kernel
theorem ddH_bitsOf_12 : decode cH_bitsOf 12 = .ok (.iconst 1, 1) := by decide +kernel
theorem ddH_bitsOf_13 : decode cH_bitsOf 13 = .ok (.iaload, 1) := by decide +kernel
theorem ddH_bitsOf_14 : decode cH_bitsOf 14 = .ok (.if_icmp .ge 28, 3) := by decide +kernel
theorem ddH_bitsOf_17 : decode cH_bitsOf 17 = .ok (.iload_n 2, 1) := by decide +kernel
theorem ddH_bitsOf_18 : decode cH_bitsOf 18 = .ok (.aload_n 0, 1) := by decide +kernel
theorem ddH_bitsOf_19 : decode cH_bitsOf 19 = .ok (.iload_n 3, 1) := by decide +kernel
theorem ddH_bitsOf_20 : decode cH_bitsOf 20 = .ok (.invokevirtual 108, 3) := by decide +kernel
theorem ddH_bitsOf_23 : decode cH_bitsOf 23 = .ok (.iload_n 1, 1) := by decide +kernel
theorem ddH_bitsOf_24 : decode cH_bitsOf 24 = .ok (.if_icmp .ne 9, 3) := by decide +kernel
theorem ddH_bitsOf_27 : decode cH_bitsOf 27 = .ok (.iconst 1, 1) := by decide +kernel
theorem ddH_bitsOf_28 : decode cH_bitsOf 28 = .ok (.iload_n 3, 1) := by decide +kernel
theorem ddH_bitsOf_29 : decode cH_bitsOf 29 = .ok (.ishl, 1) := by decide +kernel
theorem ddH_bitsOf_30 : decode cH_bitsOf 30 = .ok (.goto 4, 3) := by decide +kernel
theorem ddH_bitsOf_33 : decode cH_bitsOf 33 = .ok (.iconst 0, 1) := by decide +kernel
theorem ddH_bitsOf_34 : decode cH_bitsOf 34 = .ok (.ior, 1) := by decide +kernel
theorem ddH_bitsOf_35 : decode cH_bitsOf 35 = .ok (.istore_n 2, 1) := by decide +kernel
theorem ddH_bitsOf_36 : decode cH_bitsOf 36 = .ok (.iinc 3 1, 3) := by decide +kernel
theorem ddH_bitsOf_39 : decode cH_bitsOf 39 = .ok (.goto (-35), 3) := by decide +kernel
theorem ddH_bitsOf_42 : decode cH_bitsOf 42 = .ok (.iload_n 2, 1) := by decide +kernel
theorem ddH_bitsOf_43 : decode cH_bitsOf 43 = .ok (.ireturn, 1) := by decide +kernel
set_option maxHeartbeats 2000000 in
theorem zBH_bitsOf_34 {G : GXM} {X : CxM} (hG : GokM G) (C : CoM G X cH_bitsOf "HomeFreed$Heap") (N : mLM X = 4) {d : Nat} (hD : dpM X = d) (hd : 1 ≤ d) {v0 : Nat} {v1 : Int32} {K : Nat → Int32 → Int32 → Int32 → Mem → Option ((Int32 × Mem))} {q : (Int32 × Mem)} (hK : ∀ (v2 : Int32) (v3 : Int32) (M : Mem), K v0 v1 v2 v3 M = some q → ZM G X 4 [(0, .ref v0), (1, .int v1), (2, .int v2), (3, .int v3)] [] M 0 0) (hr : ∀ r : Int32 × Mem, q =  r → EnM G X (some .int) (some (.int r.1)) r.2 0 0) {v3 : Int32} {w0 : Int32} {w1 : Int32} {M : Mem} (h : BH_bitsOf_34 K v0 v1 v3 w0 w1 M = some q) : ZM G X 34 [(0, .ref v0), (1, .int v1), (3, .int v3)] [.int w1, .int w0] M 0 0 := by
  unfold BH_bitsOf_34 at h
  refine zz_ior C ddH_bitsOf_34 ?_
  refine zz_istore_n (L1 := [(2, .int (w0 ||| w1)), (0, .ref v0), (1, .int v1), (3, .int v3)]) C ddH_bitsOf_35 rfl N (by decide) rfl ?_
  refine zz_iinc (v := v3 + 1) (L1 := [(3, .int (v3 + 1)), (2, .int (w0 ||| w1)), (0, .ref v0), (1, .int v1)]) C 3 ddH_bitsOf_36 rfl rfl N (by decide) rfl ?_
  refine zz_goto (tgt := 4) C ddH_bitsOf_39 rfl ?_
  refine zz_loc (L1 := [(0, .ref v0), (1, .int v1), (2, .int (w0 ||| w1)), (3, .int (v3 + 1))]) [2, 3, 1, 0] rfl ?_
  exact hK _ _ _ h
set_option maxHeartbeats 2000000 in
theorem zBH_bitsOf_4 {G : GXM} {X : CxM} (hG : GokM G) (C : CoM G X cH_bitsOf "HomeFreed$Heap") (N : mLM X = 4) {d : Nat} (hD : dpM X = d) (hd : 1 ≤ d) {v0 : Nat} {v1 : Int32} {K : Nat → Int32 → Int32 → Int32 → Mem → Option ((Int32 × Mem))} {q : (Int32 × Mem)} (hK : ∀ (v2 : Int32) (v3 : Int32) (M : Mem), K v0 v1 v2 v3 M = some q → ZM G X 4 [(0, .ref v0), (1, .int v1), (2, .int v2), (3, .int v3)] [] M 0 0) (hr : ∀ r : Int32 × Mem, q =  r → EnM G X (some .int) (some (.int r.1)) r.2 0 0) {v2 : Int32} {v3 : Int32} {M : Mem} (h : BH_bitsOf_4 K v0 v1 v2 v3 M = some q) : ZM G X 4 [(0, .ref v0), (1, .int v1), (2, .int v2), (3, .int v3)] [] M 0 0 := by
  unfold BH_bitsOf_4 at h
  refine zz_iload_n C 3 ddH_bitsOf_4 rfl rfl ?_
  refine zz_aload_n C 0 ddH_bitsOf_5 rfl rfl ?_
  obtain ⟨h1, h⟩ := gdN h
  obtain ⟨h2, h⟩ := gdN h
  refine zz_getr C ddH_bitsOf_6 fl_H_46 rfl h1 (of_decide_eq_true h2) ?_
  obtain ⟨h3, h⟩ := gdN h
  obtain ⟨h4, h⟩ := gdN h
  refine zz_getr C ddH_bitsOf_9 fl_H_76 rfl h3 (of_decide_eq_true h4) ?_
  refine zz_iconst (v := 1) C ddH_bitsOf_12 (by decide) ?_
  obtain ⟨h5, h⟩ := gdN h
  refine zz_iaload C ddH_bitsOf_13 h5 ?_
  refine zz_icmp_ge (tgt := 42) C ddH_bitsOf_14 rfl (fun hc => ?_) (fun hc => ?_)
  · replace h := iteT h hc
    refine zz_iload_n C 2 ddH_bitsOf_42 rfl rfl ?_
    exact zz_iret C (hr _ (Option.some.inj h).symm) ddH_bitsOf_43
  · replace h := iteF h hc
    refine zz_iload_n C 2 ddH_bitsOf_17 rfl rfl ?_
    refine zz_aload_n C 0 ddH_bitsOf_18 rfl rfl ?_
    refine zz_iload_n C 3 ddH_bitsOf_19 rfl rfl ?_
    obtain ⟨q6, hq6, h⟩ := bindN h
    refine zz_callV0 (As := [.int v3]) C ddH_bitsOf_20 wd_1045 my_H_stateOf mv_H_stateOf ⟨_, rfl, rfl⟩ (xH_stateOf hG (d - 1) (by omega) hq6) (by omega) h1 rfl rfl (Nat.le_of_ble_eq_true rfl) ?_
    refine zz_iload_n C 1 ddH_bitsOf_23 rfl rfl ?_
    refine zz_icmp_ne (tgt := 33) C ddH_bitsOf_24 rfl (fun hc => ?_) (fun hc => ?_)
    · replace h := iteF h hc
      refine zz_iconst (v := 0) C ddH_bitsOf_33 (by decide) ?_
      refine zz_loc (L1 := [(0, .ref v0), (1, .int v1), (3, .int v3)]) [0, 1, 3] rfl ?_
      exact zBH_bitsOf_34 hG C N hD hd hK hr h
    · replace h := iteT h hc
      refine zz_iconst (v := 1) C ddH_bitsOf_27 (by decide) ?_
      refine zz_iload_n C 3 ddH_bitsOf_28 rfl rfl ?_
      refine zz_ishl C ddH_bitsOf_29 ?_
      refine zz_goto (tgt := 34) C ddH_bitsOf_30 rfl ?_
      refine zz_loc (L1 := [(0, .ref v0), (1, .int v1), (3, .int v3)]) [0, 1, 3] rfl ?_
      exact zBH_bitsOf_34 hG C N hD hd hK hr h
set_option maxHeartbeats 2000000 in
theorem zLH_bitsOf_4 {G : GXM} {X : CxM} (hG : GokM G) (C : CoM G X cH_bitsOf "HomeFreed$Heap") (N : mLM X = 4) {d : Nat} (hD : dpM X = d) (hd : 1 ≤ d) {v0 : Nat} {v1 : Int32} {q : (Int32 × Mem)} : ∀ (f : Nat) (v2 : Int32) (v3 : Int32) (M : Mem), LH_bitsOf_4 f v0 v1 v2 v3 M = some q → (hr : ∀ r : Int32 × Mem, q =  r → EnM G X (some .int) (some (.int r.1)) r.2 0 0) → ZM G X 4 [(0, .ref v0), (1, .int v1), (2, .int v2), (3, .int v3)] [] M 0 0 := by
  intro f
  induction f with
  | zero => intro v2 v3 M h; cases h
  | succ f ih =>
    intro v2 v3 M h hr
    exact zBH_bitsOf_4 hG C N hD hd (K := LH_bitsOf_4 f) (q := q) (fun v2 v3 M h => ih v2 v3 M h hr) hr h
set_option maxHeartbeats 2000000 in
theorem xH_bitsOf {G : GXM} {l : Launch} (hG : GokM G) (d : Nat) (hd : 1 ≤ d) {v0 : Nat} {v1 : Int32} {M : Mem} {q : Int32 × Mem} (h : fH_bitsOf v0 v1 M = some q) : ExM G l d 0 0 yH_bitsOf cH_bitsOf 4 (some .int) [.ref v0, .int v1] M (some (.int q.1)) q.2 := by
  refine ex_of hG (by decide +kernel) (Nat.le_of_ble_eq_true rfl) ?_
  intro X hl C E N hD hn
  show ZM G X 0 [(0, .ref v0), (1, .int v1)] [] M 0 0
  unfold fH_bitsOf at h
  refine zz_iconst (v := 0) C ddH_bitsOf_0 (by decide) ?_
  refine zz_istore_n (L1 := [(2, .int 0), (0, .ref v0), (1, .int v1)]) C ddH_bitsOf_1 rfl N (by decide) rfl ?_
  refine zz_iconst (v := 0) C ddH_bitsOf_2 (by decide) ?_
  refine zz_istore_n (L1 := [(3, .int 0), (2, .int 0), (0, .ref v0), (1, .int v1)]) C ddH_bitsOf_3 rfl N (by decide) rfl ?_
  refine zz_loc (L1 := [(0, .ref v0), (1, .int v1), (2, .int 0), (3, .int 0)]) [2, 3, 1, 0] rfl ?_
  obtain ⟨q1, hq1, h⟩ := bindN h
  refine zLH_bitsOf_4 hG C N hD hd 1000000 _ _ _ hq1 ?_
  · intro r2 eq1; replace eq1 := eq1.symm; subst eq1
    obtain rfl := Option.some.inj h
    exact E
theorem ddH_outInAll_0 : decode cH_outInAll 0 = .ok (.iconst 0, 1) := by decide +kernel
theorem ddH_outInAll_1 : decode cH_outInAll 1 = .ok (.istore_n 1, 1) := by decide +kernel
theorem ddH_outInAll_2 : decode cH_outInAll 2 = .ok (.iconst 0, 1) := by decide +kernel
theorem ddH_outInAll_3 : decode cH_outInAll 3 = .ok (.istore_n 2, 1) := by decide +kernel
theorem ddH_outInAll_4 : decode cH_outInAll 4 = .ok (.iload_n 2, 1) := by decide +kernel
theorem ddH_outInAll_5 : decode cH_outInAll 5 = .ok (.aload_n 0, 1) := by decide +kernel
theorem ddH_outInAll_6 : decode cH_outInAll 6 = .ok (.getfield 46, 3) := by decide +kernel
theorem ddH_outInAll_9 : decode cH_outInAll 9 = .ok (.getfield 76, 3) := by decide +kernel
theorem ddH_outInAll_12 : decode cH_outInAll 12 = .ok (.iconst 0, 1) := by decide +kernel
theorem ddH_outInAll_13 : decode cH_outInAll 13 = .ok (.iaload, 1) := by decide +kernel
theorem ddH_outInAll_14 : decode cH_outInAll 14 = .ok (.if_icmp .ge 17, 3) := by decide +kernel
theorem ddH_outInAll_17 : decode cH_outInAll 17 = .ok (.iload_n 1, 1) := by decide +kernel
theorem ddH_outInAll_18 : decode cH_outInAll 18 = .ok (.aload_n 0, 1) := by decide +kernel
theorem ddH_outInAll_19 : decode cH_outInAll 19 = .ok (.iload_n 2, 1) := by decide +kernel
theorem ddH_outInAll_20 : decode cH_outInAll 20 = .ok (.invokevirtual 111, 3) := by decide +kernel
theorem ddH_outInAll_23 : decode cH_outInAll 23 = .ok (.iadd, 1) := by decide +kernel
theorem ddH_outInAll_24 : decode cH_outInAll 24 = .ok (.istore_n 1, 1) := by decide +kernel
theorem ddH_outInAll_25 : decode cH_outInAll 25 = .ok (.iinc 2 1, 3) := by decide +kernel
theorem ddH_outInAll_28 : decode cH_outInAll 28 = .ok (.goto (-24), 3) := by decide +kernel
theorem ddH_outInAll_31 : decode cH_outInAll 31 = .ok (.iload_n 1, 1) := by decide +kernel
theorem ddH_outInAll_32 : decode cH_outInAll 32 = .ok (.ireturn, 1) := by decide +kernel
set_option maxHeartbeats 2000000 in
theorem zBH_outInAll_4 {G : GXM} {X : CxM} (hG : GokM G) (C : CoM G X cH_outInAll "HomeFreed$Heap") (N : mLM X = 3) {d : Nat} (hD : dpM X = d) (hd : 2 ≤ d) {v0 : Nat} {K : Nat → Int32 → Int32 → Mem → Option ((Int32 × Mem))} {q : (Int32 × Mem)} (hK : ∀ (v1 : Int32) (v2 : Int32) (M : Mem), K v0 v1 v2 M = some q → ZM G X 4 [(0, .ref v0), (1, .int v1), (2, .int v2)] [] M 0 0) (hr : ∀ r : Int32 × Mem, q =  r → EnM G X (some .int) (some (.int r.1)) r.2 0 0) {v1 : Int32} {v2 : Int32} {M : Mem} (h : BH_outInAll_4 K v0 v1 v2 M = some q) : ZM G X 4 [(0, .ref v0), (1, .int v1), (2, .int v2)] [] M 0 0 := by
  unfold BH_outInAll_4 at h
  refine zz_iload_n C 2 ddH_outInAll_4 rfl rfl ?_
  refine zz_aload_n C 0 ddH_outInAll_5 rfl rfl ?_
  obtain ⟨h1, h⟩ := gdN h
  obtain ⟨h2, h⟩ := gdN h
  refine zz_getr C ddH_outInAll_6 fl_H_46 rfl h1 (of_decide_eq_true h2) ?_
  obtain ⟨h3, h⟩ := gdN h
  obtain ⟨h4, h⟩ := gdN h
  refine zz_getr C ddH_outInAll_9 fl_H_76 rfl h3 (of_decide_eq_true h4) ?_
  refine zz_iconst (v := 0) C ddH_outInAll_12 (by decide) ?_
  obtain ⟨h5, h⟩ := gdN h
  refine zz_iaload C ddH_outInAll_13 h5 ?_
  refine zz_icmp_ge (tgt := 31) C ddH_outInAll_14 rfl (fun hc => ?_) (fun hc => ?_)
  · replace h := iteT h hc
    refine zz_iload_n C 1 ddH_outInAll_31 rfl rfl ?_
    exact zz_iret C (hr _ (Option.some.inj h).symm) ddH_outInAll_32
  · replace h := iteF h hc
    refine zz_iload_n C 1 ddH_outInAll_17 rfl rfl ?_
    refine zz_aload_n C 0 ddH_outInAll_18 rfl rfl ?_
    refine zz_iload_n C 2 ddH_outInAll_19 rfl rfl ?_
    obtain ⟨q6, hq6, h⟩ := bindN h
    refine zz_callV0 (As := [.int v2]) C ddH_outInAll_20 wd_1053 my_H_outOf mv_H_outOf ⟨_, rfl, rfl⟩ (xH_outOf hG (d - 1) (by omega) hq6) (by omega) h1 rfl rfl (Nat.le_of_ble_eq_true rfl) ?_
    refine zz_iadd C ddH_outInAll_23 ?_
    refine zz_istore_n (L1 := [(1, .int (v1 + q6.1)), (0, .ref v0), (2, .int v2)]) C ddH_outInAll_24 rfl N (by decide) rfl ?_
    refine zz_iinc (v := v2 + 1) (L1 := [(2, .int (v2 + 1)), (1, .int (v1 + q6.1)), (0, .ref v0)]) C 2 ddH_outInAll_25 rfl rfl N (by decide) rfl ?_
    refine zz_goto (tgt := 4) C ddH_outInAll_28 rfl ?_
    refine zz_loc (L1 := [(0, .ref v0), (1, .int (v1 + q6.1)), (2, .int (v2 + 1))]) [2, 1, 0] rfl ?_
    exact hK _ _ _ h
set_option maxHeartbeats 2000000 in
theorem zLH_outInAll_4 {G : GXM} {X : CxM} (hG : GokM G) (C : CoM G X cH_outInAll "HomeFreed$Heap") (N : mLM X = 3) {d : Nat} (hD : dpM X = d) (hd : 2 ≤ d) {v0 : Nat} {q : (Int32 × Mem)} : ∀ (f : Nat) (v1 : Int32) (v2 : Int32) (M : Mem), LH_outInAll_4 f v0 v1 v2 M = some q → (hr : ∀ r : Int32 × Mem, q =  r → EnM G X (some .int) (some (.int r.1)) r.2 0 0) → ZM G X 4 [(0, .ref v0), (1, .int v1), (2, .int v2)] [] M 0 0 := by
  intro f
  induction f with
  | zero => intro v1 v2 M h; cases h
  | succ f ih =>
    intro v1 v2 M h hr
    exact zBH_outInAll_4 hG C N hD hd (K := LH_outInAll_4 f) (q := q) (fun v1 v2 M h => ih v1 v2 M h hr) hr h
set_option maxHeartbeats 2000000 in
theorem xH_outInAll {G : GXM} {l : Launch} (hG : GokM G) (d : Nat) (hd : 2 ≤ d) {v0 : Nat} {M : Mem} {q : Int32 × Mem} (h : fH_outInAll v0 M = some q) : ExM G l d 0 0 yH_outInAll cH_outInAll 3 (some .int) [.ref v0] M (some (.int q.1)) q.2 := by
  refine ex_of hG (by decide +kernel) (Nat.le_of_ble_eq_true rfl) ?_
  intro X hl C E N hD hn
  show ZM G X 0 [(0, .ref v0)] [] M 0 0
  unfold fH_outInAll at h
  refine zz_iconst (v := 0) C ddH_outInAll_0 (by decide) ?_
  refine zz_istore_n (L1 := [(1, .int 0), (0, .ref v0)]) C ddH_outInAll_1 rfl N (by decide) rfl ?_
  refine zz_iconst (v := 0) C ddH_outInAll_2 (by decide) ?_
  refine zz_istore_n (L1 := [(2, .int 0), (1, .int 0), (0, .ref v0)]) C ddH_outInAll_3 rfl N (by decide) rfl ?_
  refine zz_loc (L1 := [(0, .ref v0), (1, .int 0), (2, .int 0)]) [2, 1, 0] rfl ?_
  obtain ⟨q1, hq1, h⟩ := bindN h
  refine zLH_outInAll_4 hG C N hD hd 1000000 _ _ _ hq1 ?_
  · intro r2 eq1; replace eq1 := eq1.symm; subst eq1
    obtain rfl := Option.some.inj h
    exact E
theorem ddH_idleUnits_0 : decode cH_idleUnits 0 = .ok (.iconst 0, 1) := by decide +kernel
theorem ddH_idleUnits_1 : decode cH_idleUnits 1 = .ok (.istore_n 1, 1) := by decide +kernel
theorem ddH_idleUnits_2 : decode cH_idleUnits 2 = .ok (.iconst 0, 1) := by decide +kernel
theorem ddH_idleUnits_3 : decode cH_idleUnits 3 = .ok (.istore_n 2, 1) := by decide +kernel
theorem ddH_idleUnits_4 : decode cH_idleUnits 4 = .ok (.iload_n 2, 1) := by decide +kernel
theorem ddH_idleUnits_5 : decode cH_idleUnits 5 = .ok (.aload_n 0, 1) := by decide +kernel
theorem ddH_idleUnits_6 : decode cH_idleUnits 6 = .ok (.getfield 46, 3) := by decide +kernel
theorem ddH_idleUnits_9 : decode cH_idleUnits 9 = .ok (.getfield 76, 3) := by decide +kernel
theorem ddH_idleUnits_12 : decode cH_idleUnits 12 = .ok (.iconst 1, 1) := by decide +kernel
theorem ddH_idleUnits_13 : decode cH_idleUnits 13 = .ok (.iaload, 1) := by decide +kernel
theorem ddH_idleUnits_14 : decode cH_idleUnits 14 = .ok (.if_icmp .ge 58, 3) := by decide +kernel
theorem ddH_idleUnits_17 : decode cH_idleUnits 17 = .ok (.aload_n 0, 1) := by decide +kernel
theorem ddH_idleUnits_18 : decode cH_idleUnits 18 = .ok (.getfield 46, 3) := by decide +kernel
theorem ddH_idleUnits_21 : decode cH_idleUnits 21 = .ok (.aload_n 0, 1) := by decide +kernel
theorem ddH_idleUnits_22 : decode cH_idleUnits 22 = .ok (.getfield 9, 3) := by decide +kernel
theorem ddH_idleUnits_25 : decode cH_idleUnits 25 = .ok (.iload_n 2, 1) := by decide +kernel
theorem ddH_idleUnits_26 : decode cH_idleUnits 26 = .ok (.iaload, 1) := by decide +kernel
theorem ddH_idleUnits_27 : decode cH_idleUnits 27 = .ok (.invokevirtual 114, 3) := by decide +kernel
theorem ddH_idleUnits_30 : decode cH_idleUnits 30 = .ok (.ifCond .eq 36, 3) := by decide +kernel
theorem ddH_idleUnits_33 : decode cH_idleUnits 33 = .ok (.iload_n 1, 1) := by decide +kernel
theorem ddH_idleUnits_34 : decode cH_idleUnits 34 = .ok (.aload_n 0, 1) := by decide +kernel
theorem ddH_idleUnits_35 : decode cH_idleUnits 35 = .ok (.getfield 46, 3) := by decide +kernel
theorem ddH_idleUnits_38 : decode cH_idleUnits 38 = .ok (.getfield 76, 3) := by decide +kernel
theorem ddH_idleUnits_41 : decode cH_idleUnits 41 = .ok (.iconst 2, 1) := by decide +kernel
theorem ddH_idleUnits_42 : decode cH_idleUnits 42 = .ok (.iaload, 1) := by decide +kernel
theorem ddH_idleUnits_43 : decode cH_idleUnits 43 = .ok (.aload_n 0, 1) := by decide +kernel
theorem ddH_idleUnits_44 : decode cH_idleUnits 44 = .ok (.iload_n 2, 1) := by decide +kernel
theorem ddH_idleUnits_45 : decode cH_idleUnits 45 = .ok (.invokevirtual 102, 3) := by decide +kernel
theorem ddH_idleUnits_48 : decode cH_idleUnits 48 = .ok (.aload_n 0, 1) := by decide +kernel
theorem ddH_idleUnits_49 : decode cH_idleUnits 49 = .ok (.getfield 46, 3) := by decide +kernel
theorem ddH_idleUnits_52 : decode cH_idleUnits 52 = .ok (.getfield 117, 3) := by decide +kernel
theorem ddH_idleUnits_55 : decode cH_idleUnits 55 = .ok (.aload_n 0, 1) := by decide +kernel
theorem ddH_idleUnits_56 : decode cH_idleUnits 56 = .ok (.getfield 9, 3) := by decide +kernel
theorem ddH_idleUnits_59 : decode cH_idleUnits 59 = .ok (.iload_n 2, 1) := by decide +kernel
theorem ddH_idleUnits_60 : decode cH_idleUnits 60 = .ok (.iaload, 1) := by decide +kernel
theorem ddH_idleUnits_61 : decode cH_idleUnits 61 = .ok (.iaload, 1) := by decide +kernel
theorem ddH_idleUnits_62 : decode cH_idleUnits 62 = .ok (.imul, 1) := by decide +kernel
theorem ddH_idleUnits_63 : decode cH_idleUnits 63 = .ok (.isub, 1) := by decide +kernel
theorem ddH_idleUnits_64 : decode cH_idleUnits 64 = .ok (.iadd, 1) := by decide +kernel
theorem ddH_idleUnits_65 : decode cH_idleUnits 65 = .ok (.istore_n 1, 1) := by decide +kernel
theorem ddH_idleUnits_66 : decode cH_idleUnits 66 = .ok (.iinc 2 1, 3) := by decide +kernel
theorem ddH_idleUnits_69 : decode cH_idleUnits 69 = .ok (.goto (-65), 3) := by decide +kernel
theorem ddH_idleUnits_72 : decode cH_idleUnits 72 = .ok (.iload_n 1, 1) := by decide +kernel
theorem ddH_idleUnits_73 : decode cH_idleUnits 73 = .ok (.ireturn, 1) := by decide +kernel
set_option maxHeartbeats 2000000 in
theorem zBH_idleUnits_66 {G : GXM} {X : CxM} (hG : GokM G) (C : CoM G X cH_idleUnits "HomeFreed$Heap") (N : mLM X = 3) {d : Nat} (hD : dpM X = d) (hd : 1 ≤ d) {v0 : Nat} {K : Nat → Int32 → Int32 → Mem → Option ((Int32 × Mem))} {q : (Int32 × Mem)} (hK : ∀ (v1 : Int32) (v2 : Int32) (M : Mem), K v0 v1 v2 M = some q → ZM G X 4 [(0, .ref v0), (1, .int v1), (2, .int v2)] [] M 0 0) (hr : ∀ r : Int32 × Mem, q =  r → EnM G X (some .int) (some (.int r.1)) r.2 0 0) {v1 : Int32} {v2 : Int32} {M : Mem} (h : BH_idleUnits_66 K v0 v1 v2 M = some q) : ZM G X 66 [(0, .ref v0), (1, .int v1), (2, .int v2)] [] M 0 0 := by
  unfold BH_idleUnits_66 at h
  refine zz_iinc (v := v2 + 1) (L1 := [(2, .int (v2 + 1)), (0, .ref v0), (1, .int v1)]) C 2 ddH_idleUnits_66 rfl rfl N (by decide) rfl ?_
  refine zz_goto (tgt := 4) C ddH_idleUnits_69 rfl ?_
  refine zz_loc (L1 := [(0, .ref v0), (1, .int v1), (2, .int (v2 + 1))]) [1, 2, 0] rfl ?_
  exact hK _ _ _ h
set_option maxHeartbeats 2000000 in
theorem zBH_idleUnits_4 {G : GXM} {X : CxM} (hG : GokM G) (C : CoM G X cH_idleUnits "HomeFreed$Heap") (N : mLM X = 3) {d : Nat} (hD : dpM X = d) (hd : 1 ≤ d) {v0 : Nat} {K : Nat → Int32 → Int32 → Mem → Option ((Int32 × Mem))} {q : (Int32 × Mem)} (hK : ∀ (v1 : Int32) (v2 : Int32) (M : Mem), K v0 v1 v2 M = some q → ZM G X 4 [(0, .ref v0), (1, .int v1), (2, .int v2)] [] M 0 0) (hr : ∀ r : Int32 × Mem, q =  r → EnM G X (some .int) (some (.int r.1)) r.2 0 0) {v1 : Int32} {v2 : Int32} {M : Mem} (h : BH_idleUnits_4 K v0 v1 v2 M = some q) : ZM G X 4 [(0, .ref v0), (1, .int v1), (2, .int v2)] [] M 0 0 := by
  unfold BH_idleUnits_4 at h
  refine zz_iload_n C 2 ddH_idleUnits_4 rfl rfl ?_
  refine zz_aload_n C 0 ddH_idleUnits_5 rfl rfl ?_
  obtain ⟨h1, h⟩ := gdN h
  obtain ⟨h2, h⟩ := gdN h
  refine zz_getr C ddH_idleUnits_6 fl_H_46 rfl h1 (of_decide_eq_true h2) ?_
  obtain ⟨h3, h⟩ := gdN h
  obtain ⟨h4, h⟩ := gdN h
  refine zz_getr C ddH_idleUnits_9 fl_H_76 rfl h3 (of_decide_eq_true h4) ?_
  refine zz_iconst (v := 1) C ddH_idleUnits_12 (by decide) ?_
  obtain ⟨h5, h⟩ := gdN h
  refine zz_iaload C ddH_idleUnits_13 h5 ?_
  refine zz_icmp_ge (tgt := 72) C ddH_idleUnits_14 rfl (fun hc => ?_) (fun hc => ?_)
  · replace h := iteT h hc
    refine zz_iload_n C 1 ddH_idleUnits_72 rfl rfl ?_
    exact zz_iret C (hr _ (Option.some.inj h).symm) ddH_idleUnits_73
  · replace h := iteF h hc
    refine zz_aload_n C 0 ddH_idleUnits_17 rfl rfl ?_
    refine zz_getr C ddH_idleUnits_18 fl_H_46 rfl h1 (of_decide_eq_true h2) ?_
    refine zz_aload_n C 0 ddH_idleUnits_21 rfl rfl ?_
    obtain ⟨h6, h⟩ := gdN h
    refine zz_getr C ddH_idleUnits_22 fl_H_9 rfl h1 (of_decide_eq_true h6) ?_
    refine zz_iload_n C 2 ddH_idleUnits_25 rfl rfl ?_
    obtain ⟨h7, h⟩ := gdN h
    refine zz_iaload C ddH_idleUnits_26 h7 ?_
    obtain ⟨q8, hq8, h⟩ := bindN h
    refine zz_callV0 (As := [.int (giM M (grM M v0 1) (Int32.toNatClampNeg v2))]) C ddH_idleUnits_27 wd_1058 my_U_isKind mv_U_isKind ⟨_, rfl, rfl⟩ (xU_isKind hG (d - 1) (by omega) hq8) (by omega) h3 rfl rfl (Nat.le_of_ble_eq_true rfl) ?_
    refine zz_if_eq (tgt := 66) C ddH_idleUnits_30 rfl (fun hc => ?_) (fun hc => ?_)
    · replace h := iteT h hc
      exact zBH_idleUnits_66 hG C N hD hd hK hr h
    · replace h := iteF h hc
      refine zz_iload_n C 1 ddH_idleUnits_33 rfl rfl ?_
      refine zz_aload_n C 0 ddH_idleUnits_34 rfl rfl ?_
      obtain ⟨h9, h⟩ := gdN h
      obtain ⟨h10, h⟩ := gdN h
      refine zz_getr C ddH_idleUnits_35 fl_H_46 rfl h9 (of_decide_eq_true h10) ?_
      obtain ⟨h11, h⟩ := gdN h
      obtain ⟨h12, h⟩ := gdN h
      refine zz_getr C ddH_idleUnits_38 fl_H_76 rfl h11 (of_decide_eq_true h12) ?_
      refine zz_iconst (v := 2) C ddH_idleUnits_41 (by decide) ?_
      obtain ⟨h13, h⟩ := gdN h
      refine zz_iaload C ddH_idleUnits_42 h13 ?_
      refine zz_aload_n C 0 ddH_idleUnits_43 rfl rfl ?_
      refine zz_iload_n C 2 ddH_idleUnits_44 rfl rfl ?_
      obtain ⟨q14, hq14, h⟩ := bindN h
      refine zz_callV0 (As := [.int v2]) C ddH_idleUnits_45 wd_670 my_H_usedOf mv_H_usedOf ⟨_, rfl, rfl⟩ (xH_usedOf hG (d - 1) (by omega) hq14) (by omega) h9 rfl rfl (Nat.le_of_ble_eq_true rfl) ?_
      refine zz_aload_n C 0 ddH_idleUnits_48 rfl rfl ?_
      obtain ⟨h15, h⟩ := gdN h
      obtain ⟨h16, h⟩ := gdN h
      refine zz_getr C ddH_idleUnits_49 fl_H_46 rfl h15 (of_decide_eq_true h16) ?_
      obtain ⟨h17, h⟩ := gdN h
      obtain ⟨h18, h⟩ := gdN h
      refine zz_getr C ddH_idleUnits_52 fl_H_117 rfl h17 (of_decide_eq_true h18) ?_
      refine zz_aload_n C 0 ddH_idleUnits_55 rfl rfl ?_
      obtain ⟨h19, h⟩ := gdN h
      refine zz_getr C ddH_idleUnits_56 fl_H_9 rfl h15 (of_decide_eq_true h19) ?_
      refine zz_iload_n C 2 ddH_idleUnits_59 rfl rfl ?_
      obtain ⟨h20, h⟩ := gdN h
      refine zz_iaload C ddH_idleUnits_60 h20 ?_
      obtain ⟨h21, h⟩ := gdN h
      refine zz_iaload C ddH_idleUnits_61 h21 ?_
      refine zz_imul C ddH_idleUnits_62 ?_
      refine zz_isub C ddH_idleUnits_63 ?_
      refine zz_iadd C ddH_idleUnits_64 ?_
      refine zz_istore_n (L1 := [(1, .int (v1 + ((giM q8.2 (grM q8.2 (grM q8.2 v0 0) 0) (Int32.toNatClampNeg 2)) - (q14.1 * (giM q14.2 (grM q14.2 (grM q14.2 v0 0) 1) (Int32.toNatClampNeg (giM q14.2 (grM q14.2 v0 1) (Int32.toNatClampNeg v2)))))))), (0, .ref v0), (2, .int v2)]) C ddH_idleUnits_65 rfl N (by decide) rfl ?_
      refine zz_loc (L1 := [(0, .ref v0), (1, .int (v1 + ((giM q8.2 (grM q8.2 (grM q8.2 v0 0) 0) (Int32.toNatClampNeg 2)) - (q14.1 * (giM q14.2 (grM q14.2 (grM q14.2 v0 0) 1) (Int32.toNatClampNeg (giM q14.2 (grM q14.2 v0 1) (Int32.toNatClampNeg v2)))))))), (2, .int v2)]) [1, 0, 2] rfl ?_
      exact zBH_idleUnits_66 hG C N hD hd hK hr h
set_option maxHeartbeats 2000000 in
theorem zLH_idleUnits_4 {G : GXM} {X : CxM} (hG : GokM G) (C : CoM G X cH_idleUnits "HomeFreed$Heap") (N : mLM X = 3) {d : Nat} (hD : dpM X = d) (hd : 1 ≤ d) {v0 : Nat} {q : (Int32 × Mem)} : ∀ (f : Nat) (v1 : Int32) (v2 : Int32) (M : Mem), LH_idleUnits_4 f v0 v1 v2 M = some q → (hr : ∀ r : Int32 × Mem, q =  r → EnM G X (some .int) (some (.int r.1)) r.2 0 0) → ZM G X 4 [(0, .ref v0), (1, .int v1), (2, .int v2)] [] M 0 0 := by
  intro f
  induction f with
  | zero => intro v1 v2 M h; cases h
  | succ f ih =>
    intro v1 v2 M h hr
    exact zBH_idleUnits_4 hG C N hD hd (K := LH_idleUnits_4 f) (q := q) (fun v1 v2 M h => ih v1 v2 M h hr) hr h
set_option maxHeartbeats 2000000 in
theorem xH_idleUnits {G : GXM} {l : Launch} (hG : GokM G) (d : Nat) (hd : 1 ≤ d) {v0 : Nat} {M : Mem} {q : Int32 × Mem} (h : fH_idleUnits v0 M = some q) : ExM G l d 0 0 yH_idleUnits cH_idleUnits 3 (some .int) [.ref v0] M (some (.int q.1)) q.2 := by
  refine ex_of hG (by decide +kernel) (Nat.le_of_ble_eq_true rfl) ?_
  intro X hl C E N hD hn
  show ZM G X 0 [(0, .ref v0)] [] M 0 0
  unfold fH_idleUnits at h
  refine zz_iconst (v := 0) C ddH_idleUnits_0 (by decide) ?_
  refine zz_istore_n (L1 := [(1, .int 0), (0, .ref v0)]) C ddH_idleUnits_1 rfl N (by decide) rfl ?_
  refine zz_iconst (v := 0) C ddH_idleUnits_2 (by decide) ?_
  refine zz_istore_n (L1 := [(2, .int 0), (1, .int 0), (0, .ref v0)]) C ddH_idleUnits_3 rfl N (by decide) rfl ?_
  refine zz_loc (L1 := [(0, .ref v0), (1, .int 0), (2, .int 0)]) [2, 1, 0] rfl ?_
  obtain ⟨q1, hq1, h⟩ := bindN h
  refine zLH_idleUnits_4 hG C N hD hd 1000000 _ _ _ hq1 ?_
  · intro r2 eq1; replace eq1 := eq1.symm; subst eq1
    obtain rfl := Option.some.inj h
    exact E
theorem ddH_foreignInAll_0 : decode cH_foreignInAll 0 = .ok (.iconst 0, 1) := by decide +kernel
theorem ddH_foreignInAll_1 : decode cH_foreignInAll 1 = .ok (.istore_n 1, 1) := by decide +kernel
theorem ddH_foreignInAll_2 : decode cH_foreignInAll 2 = .ok (.iconst 0, 1) := by decide +kernel
theorem ddH_foreignInAll_3 : decode cH_foreignInAll 3 = .ok (.istore_n 2, 1) := by decide +kernel
theorem ddH_foreignInAll_4 : decode cH_foreignInAll 4 = .ok (.iload_n 2, 1) := by decide +kernel
theorem ddH_foreignInAll_5 : decode cH_foreignInAll 5 = .ok (.aload_n 0, 1) := by decide +kernel
theorem ddH_foreignInAll_6 : decode cH_foreignInAll 6 = .ok (.getfield 46, 3) := by decide +kernel
theorem ddH_foreignInAll_9 : decode cH_foreignInAll 9 = .ok (.getfield 76, 3) := by decide +kernel
theorem ddH_foreignInAll_12 : decode cH_foreignInAll 12 = .ok (.iconst 1, 1) := by decide +kernel
theorem ddH_foreignInAll_13 : decode cH_foreignInAll 13 = .ok (.iaload, 1) := by decide +kernel
theorem ddH_foreignInAll_14 : decode cH_foreignInAll 14 = .ok (.if_icmp .ge 18, 3) := by decide +kernel
theorem ddH_foreignInAll_17 : decode cH_foreignInAll 17 = .ok (.iload_n 1, 1) := by decide +kernel
theorem ddH_foreignInAll_18 : decode cH_foreignInAll 18 = .ok (.aload_n 0, 1) := by decide +kernel
theorem ddH_foreignInAll_19 : decode cH_foreignInAll 19 = .ok (.iload_n 2, 1) := by decide +kernel
theorem ddH_foreignInAll_20 : decode cH_foreignInAll 20 = .ok (.iconst 2, 1) := by decide +kernel
theorem ddH_foreignInAll_21 : decode cH_foreignInAll 21 = .ok (.invokevirtual 120, 3) := by decide +kernel
theorem ddH_foreignInAll_24 : decode cH_foreignInAll 24 = .ok (.iadd, 1) := by decide +kernel
theorem ddH_foreignInAll_25 : decode cH_foreignInAll 25 = .ok (.istore_n 1, 1) := by decide +kernel
theorem ddH_foreignInAll_26 : decode cH_foreignInAll 26 = .ok (.iinc 2 1, 3) := by decide +kernel
theorem ddH_foreignInAll_29 : decode cH_foreignInAll 29 = .ok (.goto (-25), 3) := by decide +kernel
theorem ddH_foreignInAll_32 : decode cH_foreignInAll 32 = .ok (.iload_n 1, 1) := by decide +kernel
theorem ddH_foreignInAll_33 : decode cH_foreignInAll 33 = .ok (.ireturn, 1) := by decide +kernel
set_option maxHeartbeats 2000000 in
theorem zBH_foreignInAll_4 {G : GXM} {X : CxM} (hG : GokM G) (C : CoM G X cH_foreignInAll "HomeFreed$Heap") (N : mLM X = 3) {d : Nat} (hD : dpM X = d) (hd : 1 ≤ d) {v0 : Nat} {K : Nat → Int32 → Int32 → Mem → Option ((Int32 × Mem))} {q : (Int32 × Mem)} (hK : ∀ (v1 : Int32) (v2 : Int32) (M : Mem), K v0 v1 v2 M = some q → ZM G X 4 [(0, .ref v0), (1, .int v1), (2, .int v2)] [] M 0 0) (hr : ∀ r : Int32 × Mem, q =  r → EnM G X (some .int) (some (.int r.1)) r.2 0 0) {v1 : Int32} {v2 : Int32} {M : Mem} (h : BH_foreignInAll_4 K v0 v1 v2 M = some q) : ZM G X 4 [(0, .ref v0), (1, .int v1), (2, .int v2)] [] M 0 0 := by
  unfold BH_foreignInAll_4 at h
  refine zz_iload_n C 2 ddH_foreignInAll_4 rfl rfl ?_
  refine zz_aload_n C 0 ddH_foreignInAll_5 rfl rfl ?_
  obtain ⟨h1, h⟩ := gdN h
  obtain ⟨h2, h⟩ := gdN h
  refine zz_getr C ddH_foreignInAll_6 fl_H_46 rfl h1 (of_decide_eq_true h2) ?_
  obtain ⟨h3, h⟩ := gdN h
  obtain ⟨h4, h⟩ := gdN h
  refine zz_getr C ddH_foreignInAll_9 fl_H_76 rfl h3 (of_decide_eq_true h4) ?_
  refine zz_iconst (v := 1) C ddH_foreignInAll_12 (by decide) ?_
  obtain ⟨h5, h⟩ := gdN h
  refine zz_iaload C ddH_foreignInAll_13 h5 ?_
  refine zz_icmp_ge (tgt := 32) C ddH_foreignInAll_14 rfl (fun hc => ?_) (fun hc => ?_)
  · replace h := iteT h hc
    refine zz_iload_n C 1 ddH_foreignInAll_32 rfl rfl ?_
    exact zz_iret C (hr _ (Option.some.inj h).symm) ddH_foreignInAll_33
  · replace h := iteF h hc
    refine zz_iload_n C 1 ddH_foreignInAll_17 rfl rfl ?_
    refine zz_aload_n C 0 ddH_foreignInAll_18 rfl rfl ?_
    refine zz_iload_n C 2 ddH_foreignInAll_19 rfl rfl ?_
    refine zz_iconst (v := 2) C ddH_foreignInAll_20 (by decide) ?_
    obtain ⟨q6, hq6, h⟩ := bindN h
    refine zz_callV0 (As := [.int v2, .int 2]) C ddH_foreignInAll_21 wd_705 my_H_lengthOf mv_H_lengthOf ⟨_, rfl, rfl⟩ (xH_lengthOf hG (d - 1) (by omega) hq6) (by omega) h1 rfl rfl (Nat.le_of_ble_eq_true rfl) ?_
    refine zz_iadd C ddH_foreignInAll_24 ?_
    refine zz_istore_n (L1 := [(1, .int (v1 + q6.1)), (0, .ref v0), (2, .int v2)]) C ddH_foreignInAll_25 rfl N (by decide) rfl ?_
    refine zz_iinc (v := v2 + 1) (L1 := [(2, .int (v2 + 1)), (1, .int (v1 + q6.1)), (0, .ref v0)]) C 2 ddH_foreignInAll_26 rfl rfl N (by decide) rfl ?_
    refine zz_goto (tgt := 4) C ddH_foreignInAll_29 rfl ?_
    refine zz_loc (L1 := [(0, .ref v0), (1, .int (v1 + q6.1)), (2, .int (v2 + 1))]) [2, 1, 0] rfl ?_
    exact hK _ _ _ h
set_option maxHeartbeats 2000000 in
theorem zLH_foreignInAll_4 {G : GXM} {X : CxM} (hG : GokM G) (C : CoM G X cH_foreignInAll "HomeFreed$Heap") (N : mLM X = 3) {d : Nat} (hD : dpM X = d) (hd : 1 ≤ d) {v0 : Nat} {q : (Int32 × Mem)} : ∀ (f : Nat) (v1 : Int32) (v2 : Int32) (M : Mem), LH_foreignInAll_4 f v0 v1 v2 M = some q → (hr : ∀ r : Int32 × Mem, q =  r → EnM G X (some .int) (some (.int r.1)) r.2 0 0) → ZM G X 4 [(0, .ref v0), (1, .int v1), (2, .int v2)] [] M 0 0 := by
  intro f
  induction f with
  | zero => intro v1 v2 M h; cases h
  | succ f ih =>
    intro v1 v2 M h hr
    exact zBH_foreignInAll_4 hG C N hD hd (K := LH_foreignInAll_4 f) (q := q) (fun v1 v2 M h => ih v1 v2 M h hr) hr h
set_option maxHeartbeats 2000000 in
theorem xH_foreignInAll {G : GXM} {l : Launch} (hG : GokM G) (d : Nat) (hd : 1 ≤ d) {v0 : Nat} {M : Mem} {q : Int32 × Mem} (h : fH_foreignInAll v0 M = some q) : ExM G l d 0 0 yH_foreignInAll cH_foreignInAll 3 (some .int) [.ref v0] M (some (.int q.1)) q.2 := by
  refine ex_of hG (by decide +kernel) (Nat.le_of_ble_eq_true rfl) ?_
  intro X hl C E N hD hn
  show ZM G X 0 [(0, .ref v0)] [] M 0 0
  unfold fH_foreignInAll at h
  refine zz_iconst (v := 0) C ddH_foreignInAll_0 (by decide) ?_
  refine zz_istore_n (L1 := [(1, .int 0), (0, .ref v0)]) C ddH_foreignInAll_1 rfl N (by decide) rfl ?_
  refine zz_iconst (v := 0) C ddH_foreignInAll_2 (by decide) ?_
  refine zz_istore_n (L1 := [(2, .int 0), (1, .int 0), (0, .ref v0)]) C ddH_foreignInAll_3 rfl N (by decide) rfl ?_
  refine zz_loc (L1 := [(0, .ref v0), (1, .int 0), (2, .int 0)]) [2, 1, 0] rfl ?_
  obtain ⟨q1, hq1, h⟩ := bindN h
  refine zLH_foreignInAll_4 hG C N hD hd 1000000 _ _ _ hq1 ?_
  · intro r2 eq1; replace eq1 := eq1.symm; subst eq1
    obtain rfl := Option.some.inj h
    exact E
theorem ddH_timesIn_0 : decode cH_timesIn 0 = .ok (.iconst 0, 1) := by decide +kernel
theorem ddH_timesIn_1 : decode cH_timesIn 1 = .ok (.istore_n 3, 1) := by decide +kernel
theorem ddH_timesIn_2 : decode cH_timesIn 2 = .ok (.aload_n 0, 1) := by decide +kernel
theorem ddH_timesIn_3 : decode cH_timesIn 3 = .ok (.getfield 30, 3) := by decide +kernel
theorem ddH_timesIn_6 : decode cH_timesIn 6 = .ok (.getfield 132, 3) := by decide +kernel
theorem ddH_timesIn_9 : decode cH_timesIn 9 = .ok (.iload_n 1, 1) := by decide +kernel
theorem ddH_timesIn_10 : decode cH_timesIn 10 = .ok (.iaload, 1) := by decide +kernel
theorem ddH_timesIn_11 : decode cH_timesIn 11 = .ok (.istore 4, 2) := by decide +kernel
theorem ddH_timesIn_13 : decode cH_timesIn 13 = .ok (.iconst 0, 1) := by decide +kernel
theorem ddH_timesIn_14 : decode cH_timesIn 14 = .ok (.istore 5, 2) := by decide +kernel
theorem ddH_timesIn_16 : decode cH_timesIn 16 = .ok (.iload 5, 2) := by decide +kernel
theorem ddH_timesIn_18 : decode cH_timesIn 18 = .ok (.bipush 40, 2) := by decide +kernel
theorem ddH_timesIn_20 : decode cH_timesIn 20 = .ok (.if_icmp .ge 41, 3) := by decide +kernel
theorem ddH_timesIn_23 : decode cH_timesIn 23 = .ok (.iload 4, 2) := by decide +kernel
theorem ddH_timesIn_25 : decode cH_timesIn 25 = .ok (.iconst (-1), 1) := by decide +kernel
theorem ddH_timesIn_26 : decode cH_timesIn 26 = .ok (.if_icmp .eq 35, 3) := by decide +kernel
theorem ddH_timesIn_29 : decode cH_timesIn 29 = .ok (.iload_n 3, 1) := by decide +kernel
theorem ddH_timesIn_30 : decode cH_timesIn 30 = .ok (.iload 4, 2) := by decide +kernel
theorem ddH_timesIn_32 : decode cH_timesIn 32 = .ok (.iload_n 2, 1) := by decide +kernel
theorem ddH_timesIn_33 : decode cH_timesIn 33 = .ok (.if_icmp .ne 7, 3) := by decide +kernel
theorem ddH_timesIn_36 : decode cH_timesIn 36 = .ok (.iconst 1, 1) := by decide +kernel
theorem ddH_timesIn_37 : decode cH_timesIn 37 = .ok (.goto 4, 3) := by decide +kernel
theorem ddH_timesIn_40 : decode cH_timesIn 40 = .ok (.iconst 0, 1) := by decide +kernel
theorem ddH_timesIn_41 : decode cH_timesIn 41 = .ok (.iadd, 1) := by decide +kernel
theorem ddH_timesIn_42 : decode cH_timesIn 42 = .ok (.istore_n 3, 1) := by decide +kernel
theorem ddH_timesIn_43 : decode cH_timesIn 43 = .ok (.aload_n 0, 1) := by decide +kernel
theorem ddH_timesIn_44 : decode cH_timesIn 44 = .ok (.getfield 30, 3) := by decide +kernel
theorem ddH_timesIn_47 : decode cH_timesIn 47 = .ok (.getfield 135, 3) := by decide +kernel
theorem ddH_timesIn_50 : decode cH_timesIn 50 = .ok (.iload 4, 2) := by decide +kernel
theorem ddH_timesIn_52 : decode cH_timesIn 52 = .ok (.iaload, 1) := by decide +kernel
theorem ddH_timesIn_53 : decode cH_timesIn 53 = .ok (.istore 4, 2) := by decide +kernel
theorem ddH_timesIn_55 : decode cH_timesIn 55 = .ok (.iinc 5 1, 3) := by decide +kernel
theorem ddH_timesIn_58 : decode cH_timesIn 58 = .ok (.goto (-42), 3) := by decide +kernel
theorem ddH_timesIn_61 : decode cH_timesIn 61 = .ok (.iload_n 3, 1) := by decide +kernel
theorem ddH_timesIn_62 : decode cH_timesIn 62 = .ok (.ireturn, 1) := by decide +kernel
set_option maxHeartbeats 2000000 in
theorem zBH_timesIn_61 {G : GXM} {X : CxM} (hG : GokM G) (C : CoM G X cH_timesIn "HomeFreed$Heap") (N : mLM X = 6) {d : Nat} (hD : dpM X = d) (hd : 0 ≤ d)  {q : Int32 × Mem} (E : EnM G X (some .int) (some (.int q.1)) q.2 0 0) {v3 : Int32} {M : Mem} (h : BH_timesIn_61 v3 M = some q) : ZM G X 61 [(3, .int v3)] [] M 0 0 := by
  unfold BH_timesIn_61 at h
  refine zz_iload_n C 0 ddH_timesIn_61 rfl rfl ?_
  obtain rfl := Option.some.inj h
  exact zz_iret C E ddH_timesIn_62
set_option maxHeartbeats 2000000 in
theorem zBH_timesIn_41 {G : GXM} {X : CxM} (hG : GokM G) (C : CoM G X cH_timesIn "HomeFreed$Heap") (N : mLM X = 6) {d : Nat} (hD : dpM X = d) (hd : 0 ≤ d) {v0 : Nat} {v2 : Int32} {K : Nat → Int32 → Int32 → Int32 → Int32 → Mem → Option ((Int32 × Mem))} {q : (Int32 × Mem)} (hK : ∀ (v3 : Int32) (v4 : Int32) (v5 : Int32) (M : Mem), K v0 v2 v3 v4 v5 M = some q → ZM G X 16 [(0, .ref v0), (2, .int v2), (3, .int v3), (4, .int v4), (5, .int v5)] [] M 0 0) (hx0 : ∀ y : Int32 × Mem, q = y → ZM G X 61 [(3, .int y.1)] [] y.2 0 0) {v4 : Int32} {v5 : Int32} {w0 : Int32} {w1 : Int32} {M : Mem} (h : BH_timesIn_41 K v0 v2 v4 v5 w0 w1 M = some q) : ZM G X 41 [(0, .ref v0), (2, .int v2), (4, .int v4), (5, .int v5)] [.int w1, .int w0] M 0 0 := by
  unfold BH_timesIn_41 at h
  refine zz_iadd C ddH_timesIn_41 ?_
  refine zz_istore_n (L1 := [(3, .int (w0 + w1)), (0, .ref v0), (2, .int v2), (4, .int v4), (5, .int v5)]) C ddH_timesIn_42 rfl N (by decide) rfl ?_
  refine zz_aload_n C 1 ddH_timesIn_43 rfl rfl ?_
  obtain ⟨h1, h⟩ := gdN h
  obtain ⟨h2, h⟩ := gdN h
  refine zz_getr C ddH_timesIn_44 fl_H_30 rfl h1 (of_decide_eq_true h2) ?_
  obtain ⟨h3, h⟩ := gdN h
  obtain ⟨h4, h⟩ := gdN h
  refine zz_getr C ddH_timesIn_47 fl_H_135 rfl h3 (of_decide_eq_true h4) ?_
  refine zz_iload C 3 ddH_timesIn_50 rfl ?_
  obtain ⟨h5, h⟩ := gdN h
  refine zz_iaload C ddH_timesIn_52 h5 ?_
  refine zz_istore (L1 := [(4, .int (giM M (grM M (grM M v0 5) 2) (Int32.toNatClampNeg v4))), (3, .int (w0 + w1)), (0, .ref v0), (2, .int v2), (5, .int v5)]) C ddH_timesIn_53 N (by decide) rfl ?_
  refine zz_iinc (v := v5 + 1) (L1 := [(5, .int (v5 + 1)), (4, .int (giM M (grM M (grM M v0 5) 2) (Int32.toNatClampNeg v4))), (3, .int (w0 + w1)), (0, .ref v0), (2, .int v2)]) C 4 ddH_timesIn_55 rfl rfl N (by decide) rfl ?_
  refine zz_goto (tgt := 16) C ddH_timesIn_58 rfl ?_
  refine zz_loc (L1 := [(0, .ref v0), (2, .int v2), (3, .int (w0 + w1)), (4, .int (giM M (grM M (grM M v0 5) 2) (Int32.toNatClampNeg v4))), (5, .int (v5 + 1))]) [3, 4, 2, 1, 0] rfl ?_
  exact hK _ _ _ _ h
set_option maxHeartbeats 2000000 in
theorem zBH_timesIn_16 {G : GXM} {X : CxM} (hG : GokM G) (C : CoM G X cH_timesIn "HomeFreed$Heap") (N : mLM X = 6) {d : Nat} (hD : dpM X = d) (hd : 0 ≤ d) {v0 : Nat} {v2 : Int32} {K : Nat → Int32 → Int32 → Int32 → Int32 → Mem → Option ((Int32 × Mem))} {q : (Int32 × Mem)} (hK : ∀ (v3 : Int32) (v4 : Int32) (v5 : Int32) (M : Mem), K v0 v2 v3 v4 v5 M = some q → ZM G X 16 [(0, .ref v0), (2, .int v2), (3, .int v3), (4, .int v4), (5, .int v5)] [] M 0 0) (hx0 : ∀ y : Int32 × Mem, q = y → ZM G X 61 [(3, .int y.1)] [] y.2 0 0) {v3 : Int32} {v4 : Int32} {v5 : Int32} {M : Mem} (h : BH_timesIn_16 K v0 v2 v3 v4 v5 M = some q) : ZM G X 16 [(0, .ref v0), (2, .int v2), (3, .int v3), (4, .int v4), (5, .int v5)] [] M 0 0 := by
  unfold BH_timesIn_16 at h
  refine zz_iload C 4 ddH_timesIn_16 rfl ?_
  refine zz_bipush (v := 40) C ddH_timesIn_18 (by decide) ?_
  refine zz_icmp_ge (tgt := 61) C ddH_timesIn_20 rfl (fun hc => ?_) (fun hc => ?_)
  · replace h := iteT h hc
    refine zz_loc (L1 := [(3, .int v3)]) [2] rfl ?_
    exact hx0 _ (Option.some.inj h).symm
  · replace h := iteF h hc
    refine zz_iload C 3 ddH_timesIn_23 rfl ?_
    refine zz_iconst (v := (-1)) C ddH_timesIn_25 (by decide) ?_
    refine zz_icmp_eq (tgt := 61) C ddH_timesIn_26 rfl (fun hc => ?_) (fun hc => ?_)
    · replace h := iteT h hc
      refine zz_loc (L1 := [(3, .int v3)]) [2] rfl ?_
      exact hx0 _ (Option.some.inj h).symm
    · replace h := iteF h hc
      refine zz_iload_n C 2 ddH_timesIn_29 rfl rfl ?_
      refine zz_iload C 3 ddH_timesIn_30 rfl ?_
      refine zz_iload_n C 1 ddH_timesIn_32 rfl rfl ?_
      refine zz_icmp_ne (tgt := 40) C ddH_timesIn_33 rfl (fun hc => ?_) (fun hc => ?_)
      · replace h := iteF h hc
        refine zz_iconst (v := 0) C ddH_timesIn_40 (by decide) ?_
        refine zz_loc (L1 := [(0, .ref v0), (2, .int v2), (4, .int v4), (5, .int v5)]) [0, 1, 3, 4] rfl ?_
        exact zBH_timesIn_41 hG C N hD hd hK hx0 h
      · replace h := iteT h hc
        refine zz_iconst (v := 1) C ddH_timesIn_36 (by decide) ?_
        refine zz_goto (tgt := 41) C ddH_timesIn_37 rfl ?_
        refine zz_loc (L1 := [(0, .ref v0), (2, .int v2), (4, .int v4), (5, .int v5)]) [0, 1, 3, 4] rfl ?_
        exact zBH_timesIn_41 hG C N hD hd hK hx0 h
set_option maxHeartbeats 2000000 in
theorem zLH_timesIn_16 {G : GXM} {X : CxM} (hG : GokM G) (C : CoM G X cH_timesIn "HomeFreed$Heap") (N : mLM X = 6) {d : Nat} (hD : dpM X = d) (hd : 0 ≤ d) {v0 : Nat} {v2 : Int32} {q : (Int32 × Mem)} : ∀ (f : Nat) (v3 : Int32) (v4 : Int32) (v5 : Int32) (M : Mem), LH_timesIn_16 f v0 v2 v3 v4 v5 M = some q → (hx0 : ∀ y : Int32 × Mem, q = y → ZM G X 61 [(3, .int y.1)] [] y.2 0 0) → ZM G X 16 [(0, .ref v0), (2, .int v2), (3, .int v3), (4, .int v4), (5, .int v5)] [] M 0 0 := by
  intro f
  induction f with
  | zero => intro v3 v4 v5 M h; cases h
  | succ f ih =>
    intro v3 v4 v5 M h hx0
    exact zBH_timesIn_16 hG C N hD hd (K := LH_timesIn_16 f) (q := q) (fun v3 v4 v5 M h => ih v3 v4 v5 M h hx0) hx0 h
set_option maxHeartbeats 2000000 in
theorem xH_timesIn {G : GXM} {l : Launch} (hG : GokM G) (d : Nat) (hd : 0 ≤ d) {v0 : Nat} {v1 : Int32} {v2 : Int32} {M : Mem} {q : Int32 × Mem} (h : fH_timesIn v0 v1 v2 M = some q) : ExM G l d 0 0 yH_timesIn cH_timesIn 6 (some .int) [.ref v0, .int v1, .int v2] M (some (.int q.1)) q.2 := by
  refine ex_of hG (by decide +kernel) (Nat.le_of_ble_eq_true rfl) ?_
  intro X hl C E N hD hn
  show ZM G X 0 [(0, .ref v0), (1, .int v1), (2, .int v2)] [] M 0 0
  unfold fH_timesIn at h
  refine zz_iconst (v := 0) C ddH_timesIn_0 (by decide) ?_
  refine zz_istore_n (L1 := [(3, .int 0), (0, .ref v0), (1, .int v1), (2, .int v2)]) C ddH_timesIn_1 rfl N (by decide) rfl ?_
  refine zz_aload_n C 1 ddH_timesIn_2 rfl rfl ?_
  obtain ⟨h1, h⟩ := gdN h
  obtain ⟨h2, h⟩ := gdN h
  refine zz_getr C ddH_timesIn_3 fl_H_30 rfl h1 (of_decide_eq_true h2) ?_
  obtain ⟨h3, h⟩ := gdN h
  obtain ⟨h4, h⟩ := gdN h
  refine zz_getr C ddH_timesIn_6 fl_H_132 rfl h3 (of_decide_eq_true h4) ?_
  refine zz_iload_n C 2 ddH_timesIn_9 rfl rfl ?_
  obtain ⟨h5, h⟩ := gdN h
  refine zz_iaload C ddH_timesIn_10 h5 ?_
  refine zz_istore (L1 := [(4, .int (giM M (grM M (grM M v0 5) 0) (Int32.toNatClampNeg v1))), (3, .int 0), (0, .ref v0), (1, .int v1), (2, .int v2)]) C ddH_timesIn_11 N (by decide) rfl ?_
  refine zz_iconst (v := 0) C ddH_timesIn_13 (by decide) ?_
  refine zz_istore (L1 := [(5, .int 0), (4, .int (giM M (grM M (grM M v0 5) 0) (Int32.toNatClampNeg v1))), (3, .int 0), (0, .ref v0), (1, .int v1), (2, .int v2)]) C ddH_timesIn_14 N (by decide) rfl ?_
  refine zz_loc (L1 := [(0, .ref v0), (2, .int v2), (3, .int 0), (4, .int (giM M (grM M (grM M v0 5) 0) (Int32.toNatClampNeg v1))), (5, .int 0)]) [3, 5, 2, 1, 0] rfl ?_
  obtain ⟨q6, hq6, h⟩ := bindN h
  refine zLH_timesIn_16 hG C N hD hd 1000000 _ _ _ _ hq6 ?_
  · intro y7 eq6; replace eq6 := eq6.symm; subst eq6
    exact zBH_timesIn_61 hG C N hD hd E h
theorem ddH_placesOf_0 : decode cH_placesOf 0 = .ok (.aload_n 0, 1) := by decide +kernel
theorem ddH_placesOf_1 : decode cH_placesOf 1 = .ok (.getfield 30, 3) := by decide +kernel
theorem ddH_placesOf_4 : decode cH_placesOf 4 = .ok (.getfield 88, 3) := by decide +kernel
theorem ddH_placesOf_7 : decode cH_placesOf 7 = .ok (.iload_n 2, 1) := by decide +kernel
theorem ddH_placesOf_8 : decode cH_placesOf 8 = .ok (.iaload, 1) := by decide +kernel
theorem ddH_placesOf_9 : decode cH_placesOf 9 = .ok (.iconst (-1), 1) := by decide +kernel
theorem ddH_placesOf_10 : decode cH_placesOf 10 = .ok (.if_icmp .ne 7, 3) := by decide +kernel
theorem ddH_placesOf_13 : decode cH_placesOf 13 = .ok (.iconst 1, 1) := by decide +kernel
theorem ddH_placesOf_14 : decode cH_placesOf 14 = .ok (.goto 4, 3) := by decide +kernel
theorem ddH_placesOf_17 : decode cH_placesOf 17 = .ok (.iconst 0, 1) := by decide +kernel
theorem ddH_placesOf_18 : decode cH_placesOf 18 = .ok (.istore_n 3, 1) := by decide +kernel
theorem ddH_placesOf_19 : decode cH_placesOf 19 = .ok (.iconst 0, 1) := by decide +kernel
theorem ddH_placesOf_20 : decode cH_placesOf 20 = .ok (.istore 4, 2) := by decide +kernel
theorem ddH_placesOf_22 : decode cH_placesOf 22 = .ok (.iload 4, 2) := by decide +kernel
theorem ddH_placesOf_24 : decode cH_placesOf 24 = .ok (.iconst 2, 1) := by decide +kernel
theorem ddH_placesOf_25 : decode cH_placesOf 25 = .ok (.if_icmp .gt 24, 3) := by decide +kernel
theorem ddH_placesOf_28 : decode cH_placesOf 28 = .ok (.iload_n 3, 1) := by decide +kernel
theorem ddH_placesOf_29 : decode cH_placesOf 29 = .ok (.aload_n 0, 1) := by decide +kernel
theorem ddH_placesOf_30 : decode cH_placesOf 30 = .ok (.aload_n 0, 1) := by decide +kernel
theorem ddH_placesOf_31 : decode cH_placesOf 31 = .ok (.iload_n 1, 1) := by decide +kernel
theorem ddH_placesOf_32 : decode cH_placesOf 32 = .ok (.iload 4, 2) := by decide +kernel
theorem ddH_placesOf_34 : decode cH_placesOf 34 = .ok (.invokevirtual 126, 3) := by decide +kernel
theorem ddH_placesOf_37 : decode cH_placesOf 37 = .ok (.iload_n 2, 1) := by decide +kernel
theorem ddH_placesOf_38 : decode cH_placesOf 38 = .ok (.invokevirtual 129, 3) := by decide +kernel
theorem ddH_placesOf_41 : decode cH_placesOf 41 = .ok (.iadd, 1) := by decide +kernel
theorem ddH_placesOf_42 : decode cH_placesOf 42 = .ok (.istore_n 3, 1) := by decide +kernel
theorem ddH_placesOf_43 : decode cH_placesOf 43 = .ok (.iinc 4 1, 3) := by decide +kernel
theorem ddH_placesOf_46 : decode cH_placesOf 46 = .ok (.goto (-24), 3) := by decide +kernel
theorem ddH_placesOf_49 : decode cH_placesOf 49 = .ok (.iconst 0, 1) := by decide +kernel
theorem ddH_placesOf_50 : decode cH_placesOf 50 = .ok (.istore 4, 2) := by decide +kernel
theorem ddH_placesOf_52 : decode cH_placesOf 52 = .ok (.iload 4, 2) := by decide +kernel
theorem ddH_placesOf_54 : decode cH_placesOf 54 = .ok (.aload_n 0, 1) := by decide +kernel
theorem ddH_placesOf_55 : decode cH_placesOf 55 = .ok (.getfield 46, 3) := by decide +kernel
theorem ddH_placesOf_58 : decode cH_placesOf 58 = .ok (.getfield 76, 3) := by decide +kernel
theorem ddH_placesOf_61 : decode cH_placesOf 61 = .ok (.iconst 0, 1) := by decide +kernel
theorem ddH_placesOf_62 : decode cH_placesOf 62 = .ok (.iaload, 1) := by decide +kernel
theorem ddH_placesOf_63 : decode cH_placesOf 63 = .ok (.if_icmp .ge 24, 3) := by decide +kernel
theorem ddH_placesOf_66 : decode cH_placesOf 66 = .ok (.iload_n 3, 1) := by decide +kernel
theorem ddH_placesOf_67 : decode cH_placesOf 67 = .ok (.aload_n 0, 1) := by decide +kernel
theorem ddH_placesOf_68 : decode cH_placesOf 68 = .ok (.aload_n 0, 1) := by decide +kernel
theorem ddH_placesOf_69 : decode cH_placesOf 69 = .ok (.iload 4, 2) := by decide +kernel
theorem ddH_placesOf_71 : decode cH_placesOf 71 = .ok (.iload_n 1, 1) := by decide +kernel
theorem ddH_placesOf_72 : decode cH_placesOf 72 = .ok (.invokevirtual 98, 3) := by decide +kernel
theorem ddH_placesOf_75 : decode cH_placesOf 75 = .ok (.iload_n 2, 1) := by decide +kernel
theorem ddH_placesOf_76 : decode cH_placesOf 76 = .ok (.invokevirtual 129, 3) := by decide +kernel
theorem ddH_placesOf_79 : decode cH_placesOf 79 = .ok (.iadd, 1) := by decide +kernel
theorem ddH_placesOf_80 : decode cH_placesOf 80 = .ok (.istore_n 3, 1) := by decide +kernel
theorem ddH_placesOf_81 : decode cH_placesOf 81 = .ok (.iinc 4 1, 3) := by decide +kernel
theorem ddH_placesOf_84 : decode cH_placesOf 84 = .ok (.goto (-32), 3) := by decide +kernel
theorem ddH_placesOf_87 : decode cH_placesOf 87 = .ok (.iload_n 3, 1) := by decide +kernel
theorem ddH_placesOf_88 : decode cH_placesOf 88 = .ok (.ireturn, 1) := by decide +kernel
set_option maxHeartbeats 2000000 in
theorem zBH_placesOf_52 {G : GXM} {X : CxM} (hG : GokM G) (C : CoM G X cH_placesOf "HomeFreed$Heap") (N : mLM X = 5) {d : Nat} (hD : dpM X = d) (hd : 1 ≤ d) {v0 : Nat} {v1 : Int32} {v2 : Int32} {K : Nat → Int32 → Int32 → Int32 → Int32 → Mem → Option ((Int32 × Mem))} {q : (Int32 × Mem)} (hK : ∀ (v3 : Int32) (v4 : Int32) (M : Mem), K v0 v1 v2 v3 v4 M = some q → ZM G X 52 [(0, .ref v0), (1, .int v1), (2, .int v2), (3, .int v3), (4, .int v4)] [] M 0 0) (hr : ∀ r : Int32 × Mem, q =  r → EnM G X (some .int) (some (.int r.1)) r.2 0 0) {v3 : Int32} {v4 : Int32} {M : Mem} (h : BH_placesOf_52 K v0 v1 v2 v3 v4 M = some q) : ZM G X 52 [(0, .ref v0), (1, .int v1), (2, .int v2), (3, .int v3), (4, .int v4)] [] M 0 0 := by
  unfold BH_placesOf_52 at h
  refine zz_iload C 4 ddH_placesOf_52 rfl ?_
  refine zz_aload_n C 0 ddH_placesOf_54 rfl rfl ?_
  obtain ⟨h1, h⟩ := gdN h
  obtain ⟨h2, h⟩ := gdN h
  refine zz_getr C ddH_placesOf_55 fl_H_46 rfl h1 (of_decide_eq_true h2) ?_
  obtain ⟨h3, h⟩ := gdN h
  obtain ⟨h4, h⟩ := gdN h
  refine zz_getr C ddH_placesOf_58 fl_H_76 rfl h3 (of_decide_eq_true h4) ?_
  refine zz_iconst (v := 0) C ddH_placesOf_61 (by decide) ?_
  obtain ⟨h5, h⟩ := gdN h
  refine zz_iaload C ddH_placesOf_62 h5 ?_
  refine zz_icmp_ge (tgt := 87) C ddH_placesOf_63 rfl (fun hc => ?_) (fun hc => ?_)
  · replace h := iteT h hc
    refine zz_iload_n C 3 ddH_placesOf_87 rfl rfl ?_
    exact zz_iret C (hr _ (Option.some.inj h).symm) ddH_placesOf_88
  · replace h := iteF h hc
    refine zz_iload_n C 3 ddH_placesOf_66 rfl rfl ?_
    refine zz_aload_n C 0 ddH_placesOf_67 rfl rfl ?_
    refine zz_aload_n C 0 ddH_placesOf_68 rfl rfl ?_
    refine zz_iload C 4 ddH_placesOf_69 rfl ?_
    refine zz_iload_n C 1 ddH_placesOf_71 rfl rfl ?_
    obtain ⟨q6, hq6, h⟩ := bindN h
    refine zz_callV0 (As := [.int v4, .int v1]) C ddH_placesOf_72 wd_619 my_H_outboxOf mv_H_outboxOf ⟨_, rfl, rfl⟩ (xH_outboxOf hG (d - 1) (by omega) hq6) (by omega) h1 rfl rfl (Nat.le_of_ble_eq_true rfl) ?_
    refine zz_iload_n C 2 ddH_placesOf_75 rfl rfl ?_
    obtain ⟨h8, h⟩ := gdN h
    obtain ⟨q7, hq7, h⟩ := bindN h
    refine zz_callV0 (As := [.int q6.1, .int v2]) C ddH_placesOf_76 wd_1071 my_H_timesIn mv_H_timesIn ⟨_, rfl, rfl⟩ (xH_timesIn hG (d - 1) (by omega) hq7) (by omega) h8 rfl rfl (Nat.le_of_ble_eq_true rfl) ?_
    refine zz_iadd C ddH_placesOf_79 ?_
    refine zz_istore_n (L1 := [(3, .int (v3 + q7.1)), (0, .ref v0), (1, .int v1), (2, .int v2), (4, .int v4)]) C ddH_placesOf_80 rfl N (by decide) rfl ?_
    refine zz_iinc (v := v4 + 1) (L1 := [(4, .int (v4 + 1)), (3, .int (v3 + q7.1)), (0, .ref v0), (1, .int v1), (2, .int v2)]) C 4 ddH_placesOf_81 rfl rfl N (by decide) rfl ?_
    refine zz_goto (tgt := 52) C ddH_placesOf_84 rfl ?_
    refine zz_loc (L1 := [(0, .ref v0), (1, .int v1), (2, .int v2), (3, .int (v3 + q7.1)), (4, .int (v4 + 1))]) [2, 3, 4, 1, 0] rfl ?_
    exact hK _ _ _ h
set_option maxHeartbeats 2000000 in
theorem zLH_placesOf_52 {G : GXM} {X : CxM} (hG : GokM G) (C : CoM G X cH_placesOf "HomeFreed$Heap") (N : mLM X = 5) {d : Nat} (hD : dpM X = d) (hd : 1 ≤ d) {v0 : Nat} {v1 : Int32} {v2 : Int32} {q : (Int32 × Mem)} : ∀ (f : Nat) (v3 : Int32) (v4 : Int32) (M : Mem), LH_placesOf_52 f v0 v1 v2 v3 v4 M = some q → (hr : ∀ r : Int32 × Mem, q =  r → EnM G X (some .int) (some (.int r.1)) r.2 0 0) → ZM G X 52 [(0, .ref v0), (1, .int v1), (2, .int v2), (3, .int v3), (4, .int v4)] [] M 0 0 := by
  intro f
  induction f with
  | zero => intro v3 v4 M h; cases h
  | succ f ih =>
    intro v3 v4 M h hr
    exact zBH_placesOf_52 hG C N hD hd (K := LH_placesOf_52 f) (q := q) (fun v3 v4 M h => ih v3 v4 M h hr) hr h
set_option maxHeartbeats 2000000 in
theorem zBH_placesOf_22 {G : GXM} {X : CxM} (hG : GokM G) (C : CoM G X cH_placesOf "HomeFreed$Heap") (N : mLM X = 5) {d : Nat} (hD : dpM X = d) (hd : 1 ≤ d) {v0 : Nat} {v1 : Int32} {v2 : Int32} {K : Nat → Int32 → Int32 → Int32 → Int32 → Mem → Option ((Int32 × Mem))} {q : (Int32 × Mem)} (hK : ∀ (v3 : Int32) (v4 : Int32) (M : Mem), K v0 v1 v2 v3 v4 M = some q → ZM G X 22 [(0, .ref v0), (1, .int v1), (2, .int v2), (3, .int v3), (4, .int v4)] [] M 0 0) (hx0 : ∀ y : Int32 × Mem, q = y → ZM G X 49 [(0, .ref v0), (1, .int v1), (2, .int v2), (3, .int y.1)] [] y.2 0 0) {v3 : Int32} {v4 : Int32} {M : Mem} (h : BH_placesOf_22 K v0 v1 v2 v3 v4 M = some q) : ZM G X 22 [(0, .ref v0), (1, .int v1), (2, .int v2), (3, .int v3), (4, .int v4)] [] M 0 0 := by
  unfold BH_placesOf_22 at h
  refine zz_iload C 4 ddH_placesOf_22 rfl ?_
  refine zz_iconst (v := 2) C ddH_placesOf_24 (by decide) ?_
  refine zz_icmp_gt (tgt := 49) C ddH_placesOf_25 rfl (fun hc => ?_) (fun hc => ?_)
  · replace h := iteT h hc
    refine zz_loc (L1 := [(0, .ref v0), (1, .int v1), (2, .int v2), (3, .int v3)]) [0, 1, 2, 3] rfl ?_
    exact hx0 _ (Option.some.inj h).symm
  · replace h := iteF h hc
    refine zz_iload_n C 3 ddH_placesOf_28 rfl rfl ?_
    refine zz_aload_n C 0 ddH_placesOf_29 rfl rfl ?_
    refine zz_aload_n C 0 ddH_placesOf_30 rfl rfl ?_
    refine zz_iload_n C 1 ddH_placesOf_31 rfl rfl ?_
    refine zz_iload C 4 ddH_placesOf_32 rfl ?_
    obtain ⟨h2, h⟩ := gdN h
    obtain ⟨q1, hq1, h⟩ := bindN h
    refine zz_callV0 (As := [.int v1, .int v4]) C ddH_placesOf_34 wd_725 my_H_listOf mv_H_listOf ⟨_, rfl, rfl⟩ (xH_listOf hG (d - 1) (by omega) hq1) (by omega) h2 rfl rfl (Nat.le_of_ble_eq_true rfl) ?_
    refine zz_iload_n C 2 ddH_placesOf_37 rfl rfl ?_
    obtain ⟨h4, h⟩ := gdN h
    obtain ⟨q3, hq3, h⟩ := bindN h
    refine zz_callV0 (As := [.int q1.1, .int v2]) C ddH_placesOf_38 wd_1071 my_H_timesIn mv_H_timesIn ⟨_, rfl, rfl⟩ (xH_timesIn hG (d - 1) (by omega) hq3) (by omega) h4 rfl rfl (Nat.le_of_ble_eq_true rfl) ?_
    refine zz_iadd C ddH_placesOf_41 ?_
    refine zz_istore_n (L1 := [(3, .int (v3 + q3.1)), (0, .ref v0), (1, .int v1), (2, .int v2), (4, .int v4)]) C ddH_placesOf_42 rfl N (by decide) rfl ?_
    refine zz_iinc (v := v4 + 1) (L1 := [(4, .int (v4 + 1)), (3, .int (v3 + q3.1)), (0, .ref v0), (1, .int v1), (2, .int v2)]) C 4 ddH_placesOf_43 rfl rfl N (by decide) rfl ?_
    refine zz_goto (tgt := 22) C ddH_placesOf_46 rfl ?_
    refine zz_loc (L1 := [(0, .ref v0), (1, .int v1), (2, .int v2), (3, .int (v3 + q3.1)), (4, .int (v4 + 1))]) [2, 3, 4, 1, 0] rfl ?_
    exact hK _ _ _ h
set_option maxHeartbeats 2000000 in
theorem zLH_placesOf_22 {G : GXM} {X : CxM} (hG : GokM G) (C : CoM G X cH_placesOf "HomeFreed$Heap") (N : mLM X = 5) {d : Nat} (hD : dpM X = d) (hd : 1 ≤ d) {v0 : Nat} {v1 : Int32} {v2 : Int32} {q : (Int32 × Mem)} : ∀ (f : Nat) (v3 : Int32) (v4 : Int32) (M : Mem), LH_placesOf_22 f v0 v1 v2 v3 v4 M = some q → (hx0 : ∀ y : Int32 × Mem, q = y → ZM G X 49 [(0, .ref v0), (1, .int v1), (2, .int v2), (3, .int y.1)] [] y.2 0 0) → ZM G X 22 [(0, .ref v0), (1, .int v1), (2, .int v2), (3, .int v3), (4, .int v4)] [] M 0 0 := by
  intro f
  induction f with
  | zero => intro v3 v4 M h; cases h
  | succ f ih =>
    intro v3 v4 M h hx0
    exact zBH_placesOf_22 hG C N hD hd (K := LH_placesOf_22 f) (q := q) (fun v3 v4 M h => ih v3 v4 M h hx0) hx0 h
set_option maxHeartbeats 2000000 in
theorem zBH_placesOf_18 {G : GXM} {X : CxM} (hG : GokM G) (C : CoM G X cH_placesOf "HomeFreed$Heap") (N : mLM X = 5) {d : Nat} (hD : dpM X = d) (hd : 1 ≤ d)  {q : Int32 × Mem} (E : EnM G X (some .int) (some (.int q.1)) q.2 0 0) {v0 : Nat} {v1 : Int32} {v2 : Int32} {w0 : Int32} {M : Mem} (h : BH_placesOf_18 v0 v1 v2 w0 M = some q) : ZM G X 18 [(0, .ref v0), (1, .int v1), (2, .int v2)] [.int w0] M 0 0 := by
  unfold BH_placesOf_18 at h
  refine zz_istore_n (L1 := [(3, .int w0), (0, .ref v0), (1, .int v1), (2, .int v2)]) C ddH_placesOf_18 rfl N (by decide) rfl ?_
  refine zz_iconst (v := 0) C ddH_placesOf_19 (by decide) ?_
  refine zz_istore (L1 := [(4, .int 0), (3, .int w0), (0, .ref v0), (1, .int v1), (2, .int v2)]) C ddH_placesOf_20 N (by decide) rfl ?_
  refine zz_loc (L1 := [(0, .ref v0), (1, .int v1), (2, .int v2), (3, .int w0), (4, .int 0)]) [2, 3, 4, 1, 0] rfl ?_
  obtain ⟨q1, hq1, h⟩ := bindN h
  refine zLH_placesOf_22 hG C N hD hd 1000000 _ _ _ hq1 ?_
  · intro y2 eq1; replace eq1 := eq1.symm; subst eq1
    refine zz_iconst (v := 0) C ddH_placesOf_49 (by decide) ?_
    refine zz_istore (L1 := [(4, .int 0), (0, .ref v0), (1, .int v1), (2, .int v2), (3, .int y2.1)]) C ddH_placesOf_50 N (by decide) rfl ?_
    refine zz_loc (L1 := [(0, .ref v0), (1, .int v1), (2, .int v2), (3, .int y2.1), (4, .int 0)]) [1, 2, 3, 4, 0] rfl ?_
    obtain ⟨q3, hq3, h⟩ := bindN h
    refine zLH_placesOf_52 hG C N hD hd 1000000 _ _ _ hq3 ?_
    · intro r4 eq3; replace eq3 := eq3.symm; subst eq3
      obtain rfl := Option.some.inj h
      exact E
set_option maxHeartbeats 2000000 in
theorem xH_placesOf {G : GXM} {l : Launch} (hG : GokM G) (d : Nat) (hd : 1 ≤ d) {v0 : Nat} {v1 : Int32} {v2 : Int32} {M : Mem} {q : Int32 × Mem} (h : fH_placesOf v0 v1 v2 M = some q) : ExM G l d 0 0 yH_placesOf cH_placesOf 5 (some .int) [.ref v0, .int v1, .int v2] M (some (.int q.1)) q.2 := by
  refine ex_of hG (by decide +kernel) (Nat.le_of_ble_eq_true rfl) ?_
  intro X hl C E N hD hn
  show ZM G X 0 [(0, .ref v0), (1, .int v1), (2, .int v2)] [] M 0 0
  unfold fH_placesOf at h
  refine zz_aload_n C 0 ddH_placesOf_0 rfl rfl ?_
  obtain ⟨h1, h⟩ := gdN h
  obtain ⟨h2, h⟩ := gdN h
  refine zz_getr C ddH_placesOf_1 fl_H_30 rfl h1 (of_decide_eq_true h2) ?_
  obtain ⟨h3, h⟩ := gdN h
  obtain ⟨h4, h⟩ := gdN h
  refine zz_getr C ddH_placesOf_4 fl_H_88 rfl h3 (of_decide_eq_true h4) ?_
  refine zz_iload_n C 2 ddH_placesOf_7 rfl rfl ?_
  obtain ⟨h5, h⟩ := gdN h
  refine zz_iaload C ddH_placesOf_8 h5 ?_
  refine zz_iconst (v := (-1)) C ddH_placesOf_9 (by decide) ?_
  refine zz_icmp_ne (tgt := 17) C ddH_placesOf_10 rfl (fun hc => ?_) (fun hc => ?_)
  · replace h := iteF h hc
    refine zz_iconst (v := 0) C ddH_placesOf_17 (by decide) ?_
    exact zBH_placesOf_18 hG C N hD hd E h
  · replace h := iteT h hc
    refine zz_iconst (v := 1) C ddH_placesOf_13 (by decide) ?_
    refine zz_goto (tgt := 18) C ddH_placesOf_14 rfl ?_
    exact zBH_placesOf_18 hG C N hD hd E h
theorem ddH_lostBlocks_0 : decode cH_lostBlocks 0 = .ok (.iconst 0, 1) := by decide +kernel
theorem ddH_lostBlocks_1 : decode cH_lostBlocks 1 = .ok (.istore_n 1, 1) := by decide +kernel
theorem ddH_lostBlocks_2 : decode cH_lostBlocks 2 = .ok (.iconst 0, 1) := by decide +kernel
theorem ddH_lostBlocks_3 : decode cH_lostBlocks 3 = .ok (.istore_n 2, 1) := by decide +kernel
theorem ddH_lostBlocks_4 : decode cH_lostBlocks 4 = .ok (.iload_n 2, 1) := by decide +kernel
theorem ddH_lostBlocks_5 : decode cH_lostBlocks 5 = .ok (.aload_n 0, 1) := by decide +kernel
theorem ddH_lostBlocks_6 : decode cH_lostBlocks 6 = .ok (.getfield 46, 3) := by decide +kernel
theorem ddH_lostBlocks_9 : decode cH_lostBlocks 9 = .ok (.getfield 76, 3) := by decide +kernel
theorem ddH_lostBlocks_12 : decode cH_lostBlocks 12 = .ok (.iconst 1, 1) := by decide +kernel
theorem ddH_lostBlocks_13 : decode cH_lostBlocks 13 = .ok (.iaload, 1) := by decide +kernel
theorem ddH_lostBlocks_14 : decode cH_lostBlocks 14 = .ok (.if_icmp .ge 50, 3) := by decide +kernel
theorem ddH_lostBlocks_17 : decode cH_lostBlocks 17 = .ok (.iconst 0, 1) := by decide +kernel
theorem ddH_lostBlocks_18 : decode cH_lostBlocks 18 = .ok (.istore_n 3, 1) := by decide +kernel
theorem ddH_lostBlocks_19 : decode cH_lostBlocks 19 = .ok (.iload_n 3, 1) := by decide +kernel
theorem ddH_lostBlocks_20 : decode cH_lostBlocks 20 = .ok (.aload_n 0, 1) := by decide +kernel
theorem ddH_lostBlocks_21 : decode cH_lostBlocks 21 = .ok (.getfield 18, 3) := by decide +kernel
theorem ddH_lostBlocks_24 : decode cH_lostBlocks 24 = .ok (.iload_n 2, 1) := by decide +kernel
theorem ddH_lostBlocks_25 : decode cH_lostBlocks 25 = .ok (.iaload, 1) := by decide +kernel
theorem ddH_lostBlocks_26 : decode cH_lostBlocks 26 = .ok (.if_icmp .ge 32, 3) := by decide +kernel
theorem ddH_lostBlocks_29 : decode cH_lostBlocks 29 = .ok (.iload_n 1, 1) := by decide +kernel
theorem ddH_lostBlocks_30 : decode cH_lostBlocks 30 = .ok (.aload_n 0, 1) := by decide +kernel
theorem ddH_lostBlocks_31 : decode cH_lostBlocks 31 = .ok (.iload_n 2, 1) := by decide +kernel
theorem ddH_lostBlocks_32 : decode cH_lostBlocks 32 = .ok (.iload_n 2, 1) := by decide +kernel
theorem ddH_lostBlocks_33 : decode cH_lostBlocks 33 = .ok (.bipush 40, 2) := by decide +kernel
theorem ddH_lostBlocks_35 : decode cH_lostBlocks 35 = .ok (.imul, 1) := by decide +kernel
theorem ddH_lostBlocks_36 : decode cH_lostBlocks 36 = .ok (.iload_n 3, 1) := by decide +kernel
theorem ddH_lostBlocks_37 : decode cH_lostBlocks 37 = .ok (.iadd, 1) := by decide +kernel
theorem ddH_lostBlocks_38 : decode cH_lostBlocks 38 = .ok (.invokevirtual 123, 3) := by decide +kernel
theorem ddH_lostBlocks_41 : decode cH_lostBlocks 41 = .ok (.iconst 1, 1) := by decide +kernel
theorem ddH_lostBlocks_42 : decode cH_lostBlocks 42 = .ok (.if_icmp .ne 7, 3) := by decide +kernel
theorem ddH_lostBlocks_45 : decode cH_lostBlocks 45 = .ok (.iconst 0, 1) := by decide +kernel
theorem ddH_lostBlocks_46 : decode cH_lostBlocks 46 = .ok (.goto 4, 3) := by decide +kernel
theorem ddH_lostBlocks_49 : decode cH_lostBlocks 49 = .ok (.iconst 1, 1) := by decide +kernel
theorem ddH_lostBlocks_50 : decode cH_lostBlocks 50 = .ok (.iadd, 1) := by decide +kernel
theorem ddH_lostBlocks_51 : decode cH_lostBlocks 51 = .ok (.istore_n 1, 1) := by decide +kernel
theorem ddH_lostBlocks_52 : decode cH_lostBlocks 52 = .ok (.iinc 3 1, 3) := by decide +kernel
theorem ddH_lostBlocks_55 : decode cH_lostBlocks 55 = .ok (.goto (-36), 3) := by decide +kernel
theorem ddH_lostBlocks_58 : decode cH_lostBlocks 58 = .ok (.iinc 2 1, 3) := by decide +kernel
theorem ddH_lostBlocks_61 : decode cH_lostBlocks 61 = .ok (.goto (-57), 3) := by decide +kernel
theorem ddH_lostBlocks_64 : decode cH_lostBlocks 64 = .ok (.iload_n 1, 1) := by decide +kernel
theorem ddH_lostBlocks_65 : decode cH_lostBlocks 65 = .ok (.ireturn, 1) := by decide +kernel
set_option maxHeartbeats 2000000 in
theorem zBH_lostBlocks_50 {G : GXM} {X : CxM} (hG : GokM G) (C : CoM G X cH_lostBlocks "HomeFreed$Heap") (N : mLM X = 4) {d : Nat} (hD : dpM X = d) (hd : 2 ≤ d) {v0 : Nat} {v2 : Int32} {K : Nat → Int32 → Int32 → Int32 → Mem → Option ((Int32 × Mem))} {q : (Int32 × Mem)} (hK : ∀ (v1 : Int32) (v3 : Int32) (M : Mem), K v0 v1 v2 v3 M = some q → ZM G X 19 [(0, .ref v0), (1, .int v1), (2, .int v2), (3, .int v3)] [] M 0 0) (hx0 : ∀ y : Int32 × Mem, q = y → ZM G X 58 [(0, .ref v0), (1, .int y.1), (2, .int v2)] [] y.2 0 0) {v3 : Int32} {w0 : Int32} {w1 : Int32} {M : Mem} (h : BH_lostBlocks_50 K v0 v2 v3 w0 w1 M = some q) : ZM G X 50 [(0, .ref v0), (2, .int v2), (3, .int v3)] [.int w1, .int w0] M 0 0 := by
  unfold BH_lostBlocks_50 at h
  refine zz_iadd C ddH_lostBlocks_50 ?_
  refine zz_istore_n (L1 := [(1, .int (w0 + w1)), (0, .ref v0), (2, .int v2), (3, .int v3)]) C ddH_lostBlocks_51 rfl N (by decide) rfl ?_
  refine zz_iinc (v := v3 + 1) (L1 := [(3, .int (v3 + 1)), (1, .int (w0 + w1)), (0, .ref v0), (2, .int v2)]) C 3 ddH_lostBlocks_52 rfl rfl N (by decide) rfl ?_
  refine zz_goto (tgt := 19) C ddH_lostBlocks_55 rfl ?_
  refine zz_loc (L1 := [(0, .ref v0), (1, .int (w0 + w1)), (2, .int v2), (3, .int (v3 + 1))]) [2, 1, 3, 0] rfl ?_
  exact hK _ _ _ h
set_option maxHeartbeats 2000000 in
theorem zBH_lostBlocks_19 {G : GXM} {X : CxM} (hG : GokM G) (C : CoM G X cH_lostBlocks "HomeFreed$Heap") (N : mLM X = 4) {d : Nat} (hD : dpM X = d) (hd : 2 ≤ d) {v0 : Nat} {v2 : Int32} {K : Nat → Int32 → Int32 → Int32 → Mem → Option ((Int32 × Mem))} {q : (Int32 × Mem)} (hK : ∀ (v1 : Int32) (v3 : Int32) (M : Mem), K v0 v1 v2 v3 M = some q → ZM G X 19 [(0, .ref v0), (1, .int v1), (2, .int v2), (3, .int v3)] [] M 0 0) (hx0 : ∀ y : Int32 × Mem, q = y → ZM G X 58 [(0, .ref v0), (1, .int y.1), (2, .int v2)] [] y.2 0 0) {v1 : Int32} {v3 : Int32} {M : Mem} (h : BH_lostBlocks_19 K v0 v1 v2 v3 M = some q) : ZM G X 19 [(0, .ref v0), (1, .int v1), (2, .int v2), (3, .int v3)] [] M 0 0 := by
  unfold BH_lostBlocks_19 at h
  refine zz_iload_n C 3 ddH_lostBlocks_19 rfl rfl ?_
  refine zz_aload_n C 0 ddH_lostBlocks_20 rfl rfl ?_
  obtain ⟨h1, h⟩ := gdN h
  obtain ⟨h2, h⟩ := gdN h
  refine zz_getr C ddH_lostBlocks_21 fl_H_18 rfl h1 (of_decide_eq_true h2) ?_
  refine zz_iload_n C 2 ddH_lostBlocks_24 rfl rfl ?_
  obtain ⟨h3, h⟩ := gdN h
  refine zz_iaload C ddH_lostBlocks_25 h3 ?_
  refine zz_icmp_ge (tgt := 58) C ddH_lostBlocks_26 rfl (fun hc => ?_) (fun hc => ?_)
  · replace h := iteT h hc
    refine zz_loc (L1 := [(0, .ref v0), (1, .int v1), (2, .int v2)]) [0, 1, 2] rfl ?_
    exact hx0 _ (Option.some.inj h).symm
  · replace h := iteF h hc
    refine zz_iload_n C 1 ddH_lostBlocks_29 rfl rfl ?_
    refine zz_aload_n C 0 ddH_lostBlocks_30 rfl rfl ?_
    refine zz_iload_n C 2 ddH_lostBlocks_31 rfl rfl ?_
    refine zz_iload_n C 2 ddH_lostBlocks_32 rfl rfl ?_
    refine zz_bipush (v := 40) C ddH_lostBlocks_33 (by decide) ?_
    refine zz_imul C ddH_lostBlocks_35 ?_
    refine zz_iload_n C 3 ddH_lostBlocks_36 rfl rfl ?_
    refine zz_iadd C ddH_lostBlocks_37 ?_
    obtain ⟨q4, hq4, h⟩ := bindN h
    refine zz_callV0 (As := [.int v2, .int ((v2 * 40) + v3)]) C ddH_lostBlocks_38 wd_1067 my_H_placesOf mv_H_placesOf ⟨_, rfl, rfl⟩ (xH_placesOf hG (d - 1) (by omega) hq4) (by omega) h1 rfl rfl (Nat.le_of_ble_eq_true rfl) ?_
    refine zz_iconst (v := 1) C ddH_lostBlocks_41 (by decide) ?_
    refine zz_icmp_ne (tgt := 49) C ddH_lostBlocks_42 rfl (fun hc => ?_) (fun hc => ?_)
    · replace h := iteF h hc
      refine zz_iconst (v := 1) C ddH_lostBlocks_49 (by decide) ?_
      refine zz_loc (L1 := [(0, .ref v0), (2, .int v2), (3, .int v3)]) [0, 2, 3] rfl ?_
      exact zBH_lostBlocks_50 hG C N hD hd hK hx0 h
    · replace h := iteT h hc
      refine zz_iconst (v := 0) C ddH_lostBlocks_45 (by decide) ?_
      refine zz_goto (tgt := 50) C ddH_lostBlocks_46 rfl ?_
      refine zz_loc (L1 := [(0, .ref v0), (2, .int v2), (3, .int v3)]) [0, 2, 3] rfl ?_
      exact zBH_lostBlocks_50 hG C N hD hd hK hx0 h
set_option maxHeartbeats 2000000 in
theorem zLH_lostBlocks_19 {G : GXM} {X : CxM} (hG : GokM G) (C : CoM G X cH_lostBlocks "HomeFreed$Heap") (N : mLM X = 4) {d : Nat} (hD : dpM X = d) (hd : 2 ≤ d) {v0 : Nat} {v2 : Int32} {q : (Int32 × Mem)} : ∀ (f : Nat) (v1 : Int32) (v3 : Int32) (M : Mem), LH_lostBlocks_19 f v0 v1 v2 v3 M = some q → (hx0 : ∀ y : Int32 × Mem, q = y → ZM G X 58 [(0, .ref v0), (1, .int y.1), (2, .int v2)] [] y.2 0 0) → ZM G X 19 [(0, .ref v0), (1, .int v1), (2, .int v2), (3, .int v3)] [] M 0 0 := by
  intro f
  induction f with
  | zero => intro v1 v3 M h; cases h
  | succ f ih =>
    intro v1 v3 M h hx0
    exact zBH_lostBlocks_19 hG C N hD hd (K := LH_lostBlocks_19 f) (q := q) (fun v1 v3 M h => ih v1 v3 M h hx0) hx0 h
set_option maxHeartbeats 2000000 in
theorem zBH_lostBlocks_4 {G : GXM} {X : CxM} (hG : GokM G) (C : CoM G X cH_lostBlocks "HomeFreed$Heap") (N : mLM X = 4) {d : Nat} (hD : dpM X = d) (hd : 2 ≤ d) {v0 : Nat} {K : Nat → Int32 → Int32 → Mem → Option ((Int32 × Mem))} {q : (Int32 × Mem)} (hK : ∀ (v1 : Int32) (v2 : Int32) (M : Mem), K v0 v1 v2 M = some q → ZM G X 4 [(0, .ref v0), (1, .int v1), (2, .int v2)] [] M 0 0) (hr : ∀ r : Int32 × Mem, q =  r → EnM G X (some .int) (some (.int r.1)) r.2 0 0) {v1 : Int32} {v2 : Int32} {M : Mem} (h : BH_lostBlocks_4 K v0 v1 v2 M = some q) : ZM G X 4 [(0, .ref v0), (1, .int v1), (2, .int v2)] [] M 0 0 := by
  unfold BH_lostBlocks_4 at h
  refine zz_iload_n C 2 ddH_lostBlocks_4 rfl rfl ?_
  refine zz_aload_n C 0 ddH_lostBlocks_5 rfl rfl ?_
  obtain ⟨h1, h⟩ := gdN h
  obtain ⟨h2, h⟩ := gdN h
  refine zz_getr C ddH_lostBlocks_6 fl_H_46 rfl h1 (of_decide_eq_true h2) ?_
  obtain ⟨h3, h⟩ := gdN h
  obtain ⟨h4, h⟩ := gdN h
  refine zz_getr C ddH_lostBlocks_9 fl_H_76 rfl h3 (of_decide_eq_true h4) ?_
  refine zz_iconst (v := 1) C ddH_lostBlocks_12 (by decide) ?_
  obtain ⟨h5, h⟩ := gdN h
  refine zz_iaload C ddH_lostBlocks_13 h5 ?_
  refine zz_icmp_ge (tgt := 64) C ddH_lostBlocks_14 rfl (fun hc => ?_) (fun hc => ?_)
  · replace h := iteT h hc
    refine zz_iload_n C 1 ddH_lostBlocks_64 rfl rfl ?_
    exact zz_iret C (hr _ (Option.some.inj h).symm) ddH_lostBlocks_65
  · replace h := iteF h hc
    refine zz_iconst (v := 0) C ddH_lostBlocks_17 (by decide) ?_
    refine zz_istore_n (L1 := [(3, .int 0), (0, .ref v0), (1, .int v1), (2, .int v2)]) C ddH_lostBlocks_18 rfl N (by decide) rfl ?_
    refine zz_loc (L1 := [(0, .ref v0), (1, .int v1), (2, .int v2), (3, .int 0)]) [1, 2, 3, 0] rfl ?_
    obtain ⟨q6, hq6, h⟩ := bindN h
    refine zLH_lostBlocks_19 hG C N hD hd 1000000 _ _ _ hq6 ?_
    · intro y7 eq6; replace eq6 := eq6.symm; subst eq6
      refine zz_iinc (v := v2 + 1) (L1 := [(2, .int (v2 + 1)), (0, .ref v0), (1, .int y7.1)]) C 2 ddH_lostBlocks_58 rfl rfl N (by decide) rfl ?_
      refine zz_goto (tgt := 4) C ddH_lostBlocks_61 rfl ?_
      refine zz_loc (L1 := [(0, .ref v0), (1, .int y7.1), (2, .int (v2 + 1))]) [1, 2, 0] rfl ?_
      exact hK _ _ _ h
set_option maxHeartbeats 2000000 in
theorem zLH_lostBlocks_4 {G : GXM} {X : CxM} (hG : GokM G) (C : CoM G X cH_lostBlocks "HomeFreed$Heap") (N : mLM X = 4) {d : Nat} (hD : dpM X = d) (hd : 2 ≤ d) {v0 : Nat} {q : (Int32 × Mem)} : ∀ (f : Nat) (v1 : Int32) (v2 : Int32) (M : Mem), LH_lostBlocks_4 f v0 v1 v2 M = some q → (hr : ∀ r : Int32 × Mem, q =  r → EnM G X (some .int) (some (.int r.1)) r.2 0 0) → ZM G X 4 [(0, .ref v0), (1, .int v1), (2, .int v2)] [] M 0 0 := by
  intro f
  induction f with
  | zero => intro v1 v2 M h; cases h
  | succ f ih =>
    intro v1 v2 M h hr
    exact zBH_lostBlocks_4 hG C N hD hd (K := LH_lostBlocks_4 f) (q := q) (fun v1 v2 M h => ih v1 v2 M h hr) hr h
set_option maxHeartbeats 2000000 in
theorem xH_lostBlocks {G : GXM} {l : Launch} (hG : GokM G) (d : Nat) (hd : 2 ≤ d) {v0 : Nat} {M : Mem} {q : Int32 × Mem} (h : fH_lostBlocks v0 M = some q) : ExM G l d 0 0 yH_lostBlocks cH_lostBlocks 4 (some .int) [.ref v0] M (some (.int q.1)) q.2 := by
  refine ex_of hG (by decide +kernel) (Nat.le_of_ble_eq_true rfl) ?_
  intro X hl C E N hD hn
  show ZM G X 0 [(0, .ref v0)] [] M 0 0
  unfold fH_lostBlocks at h
  refine zz_iconst (v := 0) C ddH_lostBlocks_0 (by decide) ?_
  refine zz_istore_n (L1 := [(1, .int 0), (0, .ref v0)]) C ddH_lostBlocks_1 rfl N (by decide) rfl ?_
  refine zz_iconst (v := 0) C ddH_lostBlocks_2 (by decide) ?_
  refine zz_istore_n (L1 := [(2, .int 0), (1, .int 0), (0, .ref v0)]) C ddH_lostBlocks_3 rfl N (by decide) rfl ?_
  refine zz_loc (L1 := [(0, .ref v0), (1, .int 0), (2, .int 0)]) [2, 1, 0] rfl ?_
  obtain ⟨q1, hq1, h⟩ := bindN h
  refine zLH_lostBlocks_4 hG C N hD hd 1000000 _ _ _ hq1 ?_
  · intro r2 eq1; replace eq1 := eq1.symm; subst eq1
    obtain rfl := Option.some.inj h
    exact E
theorem ddA_most_0 : decode cA_most 0 = .ok (.aload_n 0, 1) := by decide +kernel
theorem ddA_most_1 : decode cA_most 1 = .ok (.getfield 28, 3) := by decide +kernel
theorem ddA_most_4 : decode cA_most 4 = .ok (.invokevirtual 132, 3) := by decide +kernel
theorem ddA_most_7 : decode cA_most 7 = .ok (.ifCond .ne 7, 3) := by decide +kernel
theorem ddA_most_10 : decode cA_most 10 = .ok (.ldc_w 300, 3) := by decide +kernel
theorem ddA_most_13 : decode cA_most 13 = .ok (.ireturn, 1) := by decide +kernel
theorem ddA_most_14 : decode cA_most 14 = .ok (.iload_n 1, 1) := by decide +kernel
theorem ddA_most_15 : decode cA_most 15 = .ok (.tableswitch 155 0 11 #[61, 66, 71, 79, 88, 97, 106, 115, 123, 131, 139, 147], 61) := by decide +kernel
theorem ddA_most_76 : decode cA_most 76 = .ok (.aload_n 0, 1) := by decide +kernel
theorem ddA_most_77 : decode cA_most 77 = .ok (.invokevirtual 369, 3) := by decide +kernel
theorem ddA_most_80 : decode cA_most 80 = .ok (.ireturn, 1) := by decide +kernel
theorem ddA_most_81 : decode cA_most 81 = .ok (.aload_n 0, 1) := by decide +kernel
theorem ddA_most_82 : decode cA_most 82 = .ok (.invokevirtual 372, 3) := by decide +kernel
theorem ddA_most_85 : decode cA_most 85 = .ok (.ireturn, 1) := by decide +kernel
theorem ddA_most_86 : decode cA_most 86 = .ok (.aload_n 0, 1) := by decide +kernel
theorem ddA_most_87 : decode cA_most 87 = .ok (.getfield 55, 3) := by decide +kernel
theorem ddA_most_90 : decode cA_most 90 = .ok (.invokevirtual 375, 3) := by decide +kernel
theorem ddA_most_93 : decode cA_most 93 = .ok (.ireturn, 1) := by decide +kernel
theorem ddA_most_94 : decode cA_most 94 = .ok (.aload_n 0, 1) := by decide +kernel
theorem ddA_most_95 : decode cA_most 95 = .ok (.getfield 55, 3) := by decide +kernel
theorem ddA_most_98 : decode cA_most 98 = .ok (.iconst 3, 1) := by decide +kernel
theorem ddA_most_99 : decode cA_most 99 = .ok (.invokevirtual 378, 3) := by decide +kernel
theorem ddA_most_102 : decode cA_most 102 = .ok (.ireturn, 1) := by decide +kernel
theorem ddA_most_103 : decode cA_most 103 = .ok (.aload_n 0, 1) := by decide +kernel
theorem ddA_most_104 : decode cA_most 104 = .ok (.getfield 55, 3) := by decide +kernel
theorem ddA_most_107 : decode cA_most 107 = .ok (.iconst 0, 1) := by decide +kernel
theorem ddA_most_108 : decode cA_most 108 = .ok (.invokevirtual 378, 3) := by decide +kernel
theorem ddA_most_111 : decode cA_most 111 = .ok (.ireturn, 1) := by decide +kernel
theorem ddA_most_112 : decode cA_most 112 = .ok (.aload_n 0, 1) := by decide +kernel
theorem ddA_most_113 : decode cA_most 113 = .ok (.getfield 55, 3) := by decide +kernel
theorem ddA_most_116 : decode cA_most 116 = .ok (.iconst 2, 1) := by decide +kernel
theorem ddA_most_117 : decode cA_most 117 = .ok (.invokevirtual 378, 3) := by decide +kernel
theorem ddA_most_120 : decode cA_most 120 = .ok (.ireturn, 1) := by decide +kernel
theorem ddA_most_121 : decode cA_most 121 = .ok (.aload_n 0, 1) := by decide +kernel
theorem ddA_most_122 : decode cA_most 122 = .ok (.getfield 55, 3) := by decide +kernel
theorem ddA_most_125 : decode cA_most 125 = .ok (.iconst 1, 1) := by decide +kernel
theorem ddA_most_126 : decode cA_most 126 = .ok (.invokevirtual 378, 3) := by decide +kernel
theorem ddA_most_129 : decode cA_most 129 = .ok (.ireturn, 1) := by decide +kernel
theorem ddA_most_130 : decode cA_most 130 = .ok (.aload_n 0, 1) := by decide +kernel
theorem ddA_most_131 : decode cA_most 131 = .ok (.getfield 55, 3) := by decide +kernel
theorem ddA_most_134 : decode cA_most 134 = .ok (.invokevirtual 259, 3) := by decide +kernel
theorem ddA_most_137 : decode cA_most 137 = .ok (.ireturn, 1) := by decide +kernel
theorem ddA_most_138 : decode cA_most 138 = .ok (.aload_n 0, 1) := by decide +kernel
theorem ddA_most_139 : decode cA_most 139 = .ok (.getfield 55, 3) := by decide +kernel
theorem ddA_most_142 : decode cA_most 142 = .ok (.invokevirtual 381, 3) := by decide +kernel
theorem ddA_most_145 : decode cA_most 145 = .ok (.ireturn, 1) := by decide +kernel
theorem ddA_most_146 : decode cA_most 146 = .ok (.aload_n 0, 1) := by decide +kernel
theorem ddA_most_147 : decode cA_most 147 = .ok (.getfield 55, 3) := by decide +kernel
theorem ddA_most_150 : decode cA_most 150 = .ok (.invokevirtual 384, 3) := by decide +kernel
theorem ddA_most_153 : decode cA_most 153 = .ok (.ireturn, 1) := by decide +kernel
theorem ddA_most_154 : decode cA_most 154 = .ok (.aload_n 0, 1) := by decide +kernel
theorem ddA_most_155 : decode cA_most 155 = .ok (.getfield 55, 3) := by decide +kernel
theorem ddA_most_158 : decode cA_most 158 = .ok (.invokevirtual 387, 3) := by decide +kernel
theorem ddA_most_161 : decode cA_most 161 = .ok (.ireturn, 1) := by decide +kernel
theorem ddA_most_162 : decode cA_most 162 = .ok (.aload_n 0, 1) := by decide +kernel
theorem ddA_most_163 : decode cA_most 163 = .ok (.getfield 55, 3) := by decide +kernel
theorem ddA_most_166 : decode cA_most 166 = .ok (.invokevirtual 390, 3) := by decide +kernel
theorem ddA_most_169 : decode cA_most 169 = .ok (.ireturn, 1) := by decide +kernel
theorem ddA_most_170 : decode cA_most 170 = .ok (.ldc_w 300, 3) := by decide +kernel
theorem ddA_most_173 : decode cA_most 173 = .ok (.ireturn, 1) := by decide +kernel
set_option maxHeartbeats 2000000 in
theorem xA_most {G : GXM} {l : Launch} (hG : GokM G) (d : Nat) (hd : 3 ≤ d) {v0 : Nat} {v1 : Int32} {M : Mem} {q : Int32 × Mem} (h : fA_most v0 v1 M = some q) : ExM G l d 0 0 yA_most cA_most 2 (some .int) [.ref v0, .int v1] M (some (.int q.1)) q.2 := by
  refine ex_of hG (by decide +kernel) (Nat.le_of_ble_eq_true rfl) ?_
  intro X hl C E N hD hn
  show ZM G X 0 [(0, .ref v0), (1, .int v1)] [] M 0 0
  unfold fA_most at h
  refine zz_aload_n C 0 ddA_most_0 rfl rfl ?_
  obtain ⟨h1, h⟩ := gdN h
  obtain ⟨h2, h⟩ := gdN h
  refine zz_getr C ddA_most_1 fl_A_28 rfl h1 (of_decide_eq_true h2) ?_
  obtain ⟨h4, h⟩ := gdN h
  obtain ⟨q3, hq3, h⟩ := bindN h
  refine zz_callV0 (As := []) C ddA_most_4 wd_566 my_U_areTold mv_U_areTold ⟨_, rfl, rfl⟩ (xU_areTold hG (d - 1) (by omega) hq3) (by omega) h4 rfl rfl (Nat.le_of_ble_eq_true rfl) ?_
  refine zz_if_ne (tgt := 14) C ddA_most_7 rfl (fun hc => ?_) (fun hc => ?_)
  · replace h := iteF h hc
    refine zz_iload_n C 1 ddA_most_14 rfl rfl ?_
    by_cases hs15_0 : v1 = 0
    · replace h := iteT h hs15_0
      rw [hs15_0]
      refine zz_tableIn (tgt := 76) C ddA_most_15 (by decide) (by decide) rfl rfl ?_
      refine zz_aload_n C 0 ddA_most_76 rfl rfl ?_
      obtain ⟨h6, h⟩ := gdN h
      obtain ⟨q5, hq5, h⟩ := bindN h
      refine zz_callV0 (As := []) C ddA_most_77 wd_1029 my_A_fullest mv_A_fullest ⟨_, rfl, rfl⟩ (xA_fullest hG (d - 1) (by omega) hq5) (by omega) h6 rfl rfl (Nat.le_of_ble_eq_true rfl) ?_
      obtain rfl := Option.some.inj h
      exact zz_iret C E ddA_most_80
    replace h := iteF h hs15_0
    by_cases hs15_1 : v1 = 1
    · replace h := iteT h hs15_1
      rw [hs15_1]
      refine zz_tableIn (tgt := 81) C ddA_most_15 (by decide) (by decide) rfl rfl ?_
      refine zz_aload_n C 0 ddA_most_81 rfl rfl ?_
      obtain ⟨h8, h⟩ := gdN h
      obtain ⟨q7, hq7, h⟩ := bindN h
      refine zz_callV0 (As := []) C ddA_most_82 wd_1033 my_A_richest mv_A_richest ⟨_, rfl, rfl⟩ (xA_richest hG (d - 1) (by omega) hq7) (by omega) h8 rfl rfl (Nat.le_of_ble_eq_true rfl) ?_
      obtain rfl := Option.some.inj h
      exact zz_iret C E ddA_most_85
    replace h := iteF h hs15_1
    by_cases hs15_2 : v1 = 2
    · replace h := iteT h hs15_2
      rw [hs15_2]
      refine zz_tableIn (tgt := 86) C ddA_most_15 (by decide) (by decide) rfl rfl ?_
      refine zz_aload_n C 0 ddA_most_86 rfl rfl ?_
      obtain ⟨h9, h⟩ := gdN h
      obtain ⟨h10, h⟩ := gdN h
      refine zz_getr C ddA_most_87 fl_A_55 rfl h9 (of_decide_eq_true h10) ?_
      obtain ⟨h12, h⟩ := gdN h
      obtain ⟨q11, hq11, h⟩ := bindN h
      refine zz_callV0 (As := []) C ddA_most_90 wd_1037 my_H_livingBits mv_H_livingBits ⟨_, rfl, rfl⟩ (xH_livingBits hG (d - 1) (by omega) hq11) (by omega) h12 rfl rfl (Nat.le_of_ble_eq_true rfl) ?_
      obtain rfl := Option.some.inj h
      exact zz_iret C E ddA_most_93
    replace h := iteF h hs15_2
    by_cases hs15_3 : v1 = 3
    · replace h := iteT h hs15_3
      rw [hs15_3]
      refine zz_tableIn (tgt := 94) C ddA_most_15 (by decide) (by decide) rfl rfl ?_
      refine zz_aload_n C 0 ddA_most_94 rfl rfl ?_
      obtain ⟨h13, h⟩ := gdN h
      obtain ⟨h14, h⟩ := gdN h
      refine zz_getr C ddA_most_95 fl_A_55 rfl h13 (of_decide_eq_true h14) ?_
      refine zz_iconst (v := 3) C ddA_most_98 (by decide) ?_
      obtain ⟨h16, h⟩ := gdN h
      obtain ⟨q15, hq15, h⟩ := bindN h
      refine zz_callV0 (As := [.int 3]) C ddA_most_99 wd_1041 my_H_bitsOf mv_H_bitsOf ⟨_, rfl, rfl⟩ (xH_bitsOf hG (d - 1) (by omega) hq15) (by omega) h16 rfl rfl (Nat.le_of_ble_eq_true rfl) ?_
      obtain rfl := Option.some.inj h
      exact zz_iret C E ddA_most_102
    replace h := iteF h hs15_3
    by_cases hs15_4 : v1 = 4
    · replace h := iteT h hs15_4
      rw [hs15_4]
      refine zz_tableIn (tgt := 103) C ddA_most_15 (by decide) (by decide) rfl rfl ?_
      refine zz_aload_n C 0 ddA_most_103 rfl rfl ?_
      obtain ⟨h17, h⟩ := gdN h
      obtain ⟨h18, h⟩ := gdN h
      refine zz_getr C ddA_most_104 fl_A_55 rfl h17 (of_decide_eq_true h18) ?_
      refine zz_iconst (v := 0) C ddA_most_107 (by decide) ?_
      obtain ⟨h20, h⟩ := gdN h
      obtain ⟨q19, hq19, h⟩ := bindN h
      refine zz_callV0 (As := [.int 0]) C ddA_most_108 wd_1041 my_H_bitsOf mv_H_bitsOf ⟨_, rfl, rfl⟩ (xH_bitsOf hG (d - 1) (by omega) hq19) (by omega) h20 rfl rfl (Nat.le_of_ble_eq_true rfl) ?_
      obtain rfl := Option.some.inj h
      exact zz_iret C E ddA_most_111
    replace h := iteF h hs15_4
    by_cases hs15_5 : v1 = 5
    · replace h := iteT h hs15_5
      rw [hs15_5]
      refine zz_tableIn (tgt := 112) C ddA_most_15 (by decide) (by decide) rfl rfl ?_
      refine zz_aload_n C 0 ddA_most_112 rfl rfl ?_
      obtain ⟨h21, h⟩ := gdN h
      obtain ⟨h22, h⟩ := gdN h
      refine zz_getr C ddA_most_113 fl_A_55 rfl h21 (of_decide_eq_true h22) ?_
      refine zz_iconst (v := 2) C ddA_most_116 (by decide) ?_
      obtain ⟨h24, h⟩ := gdN h
      obtain ⟨q23, hq23, h⟩ := bindN h
      refine zz_callV0 (As := [.int 2]) C ddA_most_117 wd_1041 my_H_bitsOf mv_H_bitsOf ⟨_, rfl, rfl⟩ (xH_bitsOf hG (d - 1) (by omega) hq23) (by omega) h24 rfl rfl (Nat.le_of_ble_eq_true rfl) ?_
      obtain rfl := Option.some.inj h
      exact zz_iret C E ddA_most_120
    replace h := iteF h hs15_5
    by_cases hs15_6 : v1 = 6
    · replace h := iteT h hs15_6
      rw [hs15_6]
      refine zz_tableIn (tgt := 121) C ddA_most_15 (by decide) (by decide) rfl rfl ?_
      refine zz_aload_n C 0 ddA_most_121 rfl rfl ?_
      obtain ⟨h25, h⟩ := gdN h
      obtain ⟨h26, h⟩ := gdN h
      refine zz_getr C ddA_most_122 fl_A_55 rfl h25 (of_decide_eq_true h26) ?_
      refine zz_iconst (v := 1) C ddA_most_125 (by decide) ?_
      obtain ⟨h28, h⟩ := gdN h
      obtain ⟨q27, hq27, h⟩ := bindN h
      refine zz_callV0 (As := [.int 1]) C ddA_most_126 wd_1041 my_H_bitsOf mv_H_bitsOf ⟨_, rfl, rfl⟩ (xH_bitsOf hG (d - 1) (by omega) hq27) (by omega) h28 rfl rfl (Nat.le_of_ble_eq_true rfl) ?_
      obtain rfl := Option.some.inj h
      exact zz_iret C E ddA_most_129
    replace h := iteF h hs15_6
    by_cases hs15_7 : v1 = 7
    · replace h := iteT h hs15_7
      rw [hs15_7]
      refine zz_tableIn (tgt := 130) C ddA_most_15 (by decide) (by decide) rfl rfl ?_
      refine zz_aload_n C 0 ddA_most_130 rfl rfl ?_
      obtain ⟨h29, h⟩ := gdN h
      obtain ⟨h30, h⟩ := gdN h
      refine zz_getr C ddA_most_131 fl_A_55 rfl h29 (of_decide_eq_true h30) ?_
      obtain ⟨h32, h⟩ := gdN h
      obtain ⟨q31, hq31, h⟩ := bindN h
      refine zz_callV0 (As := []) C ddA_most_134 wd_872 my_H_heldInAll mv_H_heldInAll ⟨_, rfl, rfl⟩ (xH_heldInAll hG (d - 1) (by omega) hq31) (by omega) h32 rfl rfl (Nat.le_of_ble_eq_true rfl) ?_
      obtain rfl := Option.some.inj h
      exact zz_iret C E ddA_most_137
    replace h := iteF h hs15_7
    by_cases hs15_8 : v1 = 8
    · replace h := iteT h hs15_8
      rw [hs15_8]
      refine zz_tableIn (tgt := 138) C ddA_most_15 (by decide) (by decide) rfl rfl ?_
      refine zz_aload_n C 0 ddA_most_138 rfl rfl ?_
      obtain ⟨h33, h⟩ := gdN h
      obtain ⟨h34, h⟩ := gdN h
      refine zz_getr C ddA_most_139 fl_A_55 rfl h33 (of_decide_eq_true h34) ?_
      obtain ⟨h36, h⟩ := gdN h
      obtain ⟨q35, hq35, h⟩ := bindN h
      refine zz_callV0 (As := []) C ddA_most_142 wd_1049 my_H_outInAll mv_H_outInAll ⟨_, rfl, rfl⟩ (xH_outInAll hG (d - 1) (by omega) hq35) (by omega) h36 rfl rfl (Nat.le_of_ble_eq_true rfl) ?_
      obtain rfl := Option.some.inj h
      exact zz_iret C E ddA_most_145
    replace h := iteF h hs15_8
    by_cases hs15_9 : v1 = 9
    · replace h := iteT h hs15_9
      rw [hs15_9]
      refine zz_tableIn (tgt := 146) C ddA_most_15 (by decide) (by decide) rfl rfl ?_
      refine zz_aload_n C 0 ddA_most_146 rfl rfl ?_
      obtain ⟨h37, h⟩ := gdN h
      obtain ⟨h38, h⟩ := gdN h
      refine zz_getr C ddA_most_147 fl_A_55 rfl h37 (of_decide_eq_true h38) ?_
      obtain ⟨h40, h⟩ := gdN h
      obtain ⟨q39, hq39, h⟩ := bindN h
      refine zz_callV0 (As := []) C ddA_most_150 wd_1054 my_H_idleUnits mv_H_idleUnits ⟨_, rfl, rfl⟩ (xH_idleUnits hG (d - 1) (by omega) hq39) (by omega) h40 rfl rfl (Nat.le_of_ble_eq_true rfl) ?_
      obtain rfl := Option.some.inj h
      exact zz_iret C E ddA_most_153
    replace h := iteF h hs15_9
    by_cases hs15_10 : v1 = 10
    · replace h := iteT h hs15_10
      rw [hs15_10]
      refine zz_tableIn (tgt := 154) C ddA_most_15 (by decide) (by decide) rfl rfl ?_
      refine zz_aload_n C 0 ddA_most_154 rfl rfl ?_
      obtain ⟨h41, h⟩ := gdN h
      obtain ⟨h42, h⟩ := gdN h
      refine zz_getr C ddA_most_155 fl_A_55 rfl h41 (of_decide_eq_true h42) ?_
      obtain ⟨h44, h⟩ := gdN h
      obtain ⟨q43, hq43, h⟩ := bindN h
      refine zz_callV0 (As := []) C ddA_most_158 wd_1059 my_H_foreignInAll mv_H_foreignInAll ⟨_, rfl, rfl⟩ (xH_foreignInAll hG (d - 1) (by omega) hq43) (by omega) h44 rfl rfl (Nat.le_of_ble_eq_true rfl) ?_
      obtain rfl := Option.some.inj h
      exact zz_iret C E ddA_most_161
    replace h := iteF h hs15_10
    by_cases hs15_11 : v1 = 11
    · replace h := iteT h hs15_11
      rw [hs15_11]
      refine zz_tableIn (tgt := 162) C ddA_most_15 (by decide) (by decide) rfl rfl ?_
      refine zz_aload_n C 0 ddA_most_162 rfl rfl ?_
      obtain ⟨h45, h⟩ := gdN h
      obtain ⟨h46, h⟩ := gdN h
      refine zz_getr C ddA_most_163 fl_A_55 rfl h45 (of_decide_eq_true h46) ?_
      obtain ⟨h48, h⟩ := gdN h
      obtain ⟨q47, hq47, h⟩ := bindN h
      refine zz_callV0 (As := []) C ddA_most_166 wd_1063 my_H_lostBlocks mv_H_lostBlocks ⟨_, rfl, rfl⟩ (xH_lostBlocks hG (d - 1) (by omega) hq47) (by omega) h48 rfl rfl (Nat.le_of_ble_eq_true rfl) ?_
      obtain rfl := Option.some.inj h
      exact zz_iret C E ddA_most_169
    replace h := iteF h hs15_11
    have ths15_0 := lv_neT (a := 0) hs15_0 (by decide)
    have ths15_1 := lv_neT (a := 1) hs15_1 (by decide)
    have ths15_2 := lv_neT (a := 2) hs15_2 (by decide)
    have ths15_3 := lv_neT (a := 3) hs15_3 (by decide)
    have ths15_4 := lv_neT (a := 4) hs15_4 (by decide)
    have ths15_5 := lv_neT (a := 5) hs15_5 (by decide)
    have ths15_6 := lv_neT (a := 6) hs15_6 (by decide)
    have ths15_7 := lv_neT (a := 7) hs15_7 (by decide)
    have ths15_8 := lv_neT (a := 8) hs15_8 (by decide)
    have ths15_9 := lv_neT (a := 9) hs15_9 (by decide)
    have ths15_10 := lv_neT (a := 10) hs15_10 (by decide)
    have ths15_11 := lv_neT (a := 11) hs15_11 (by decide)
    refine zz_tableOut (tgt := 170) C ddA_most_15 (by omega) rfl ?_
    refine zz_ldcw C ddA_most_170 wd_925 rfl ?_
    obtain rfl := Option.some.inj h
    exact zz_iret C E ddA_most_173
  · replace h := iteT h hc
    refine zz_ldcw C ddA_most_10 wd_925 rfl ?_
    obtain rfl := Option.some.inj h
    exact zz_iret C E ddA_most_13
theorem ddA_image_0 : decode cA_image 0 = .ok (.aload_n 0, 1) := by decide +kernel
theorem ddA_image_1 : decode cA_image 1 = .ok (.getfield 28, 3) := by decide +kernel
theorem ddA_image_4 : decode cA_image 4 = .ok (.invokevirtual 132, 3) := by decide +kernel
theorem ddA_image_7 : decode cA_image 7 = .ok (.ifCond .ne 5, 3) := by decide +kernel
theorem ddA_image_10 : decode cA_image 10 = .ok (.iconst (-1), 1) := by decide +kernel
theorem ddA_image_11 : decode cA_image 11 = .ok (.ireturn, 1) := by decide +kernel
theorem ddA_image_12 : decode cA_image 12 = .ok (.aload_n 0, 1) := by decide +kernel
theorem ddA_image_13 : decode cA_image 13 = .ok (.getfield 66, 3) := by decide +kernel
theorem ddA_image_16 : decode cA_image 16 = .ok (.aload_n 0, 1) := by decide +kernel
theorem ddA_image_17 : decode cA_image 17 = .ok (.getfield 55, 3) := by decide +kernel
theorem ddA_image_20 : decode cA_image 20 = .ok (.invokevirtual 335, 3) := by decide +kernel
theorem ddA_image_23 : decode cA_image 23 = .ok (.aload_n 0, 1) := by decide +kernel
theorem ddA_image_24 : decode cA_image 24 = .ok (.iconst 1, 1) := by decide +kernel
theorem ddA_image_25 : decode cA_image 25 = .ok (.putfield 69, 3) := by decide +kernel
theorem ddA_image_28 : decode cA_image 28 = .ok (.aload_n 0, 1) := by decide +kernel
theorem ddA_image_29 : decode cA_image 29 = .ok (.getfield 55, 3) := by decide +kernel
theorem ddA_image_32 : decode cA_image 32 = .ok (.invokevirtual 259, 3) := by decide +kernel
theorem ddA_image_35 : decode cA_image 35 = .ok (.ireturn, 1) := by decide +kernel
set_option maxHeartbeats 2000000 in
theorem xA_image {G : GXM} {l : Launch} (hG : GokM G) (d : Nat) (hd : 3 ≤ d) {v0 : Nat} {M : Mem} {q : Int32 × Mem} (h : fA_image v0 M = some q) : ExM G l d 0 0 yA_image cA_image 1 (some .int) [.ref v0] M (some (.int q.1)) q.2 := by
  refine ex_of hG (by decide +kernel) (Nat.le_of_ble_eq_true rfl) ?_
  intro X hl C E N hD hn
  show ZM G X 0 [(0, .ref v0)] [] M 0 0
  unfold fA_image at h
  refine zz_aload_n C 0 ddA_image_0 rfl rfl ?_
  obtain ⟨h1, h⟩ := gdN h
  obtain ⟨h2, h⟩ := gdN h
  refine zz_getr C ddA_image_1 fl_A_28 rfl h1 (of_decide_eq_true h2) ?_
  obtain ⟨h4, h⟩ := gdN h
  obtain ⟨q3, hq3, h⟩ := bindN h
  refine zz_callV0 (As := []) C ddA_image_4 wd_566 my_U_areTold mv_U_areTold ⟨_, rfl, rfl⟩ (xU_areTold hG (d - 1) (by omega) hq3) (by omega) h4 rfl rfl (Nat.le_of_ble_eq_true rfl) ?_
  refine zz_if_ne (tgt := 12) C ddA_image_7 rfl (fun hc => ?_) (fun hc => ?_)
  · replace h := iteF h hc
    refine zz_aload_n C 0 ddA_image_12 rfl rfl ?_
    obtain ⟨h5, h⟩ := gdN h
    obtain ⟨h6, h⟩ := gdN h
    refine zz_getr C ddA_image_13 fl_A_66 rfl h5 (of_decide_eq_true h6) ?_
    refine zz_aload_n C 0 ddA_image_16 rfl rfl ?_
    obtain ⟨h7, h⟩ := gdN h
    refine zz_getr C ddA_image_17 fl_A_55 rfl h5 (of_decide_eq_true h7) ?_
    obtain ⟨h9, h⟩ := gdN h
    obtain ⟨q8, hq8, h⟩ := bindN h
    refine zz_callV0 (As := [.ref (grM q3.2 v0 7)]) C ddA_image_20 wd_963 my_H_copyFrom mv_H_copyFrom ⟨_, rfl, rfl⟩ (xH_copyFrom hG (d - 1) (by omega) hq8) (by omega) h9 rfl rfl (Nat.le_of_ble_eq_true rfl) ?_
    refine zz_aload_n C 0 ddA_image_23 rfl rfl ?_
    refine zz_iconst (v := 1) C ddA_image_24 (by decide) ?_
    obtain ⟨h10, h⟩ := gdN h
    refine zz_puti C ddA_image_25 fl_A_69 rfl rfl rfl h10 ?_
    refine zz_aload_n C 0 ddA_image_28 rfl rfl ?_
    obtain ⟨h11, h⟩ := gdN h
    refine zz_getr C ddA_image_29 fl_A_55 rfl h10 (of_decide_eq_true h11) ?_
    obtain ⟨h13, h⟩ := gdN h
    obtain ⟨q12, hq12, h⟩ := bindN h
    refine zz_callV0 (As := []) C ddA_image_32 wd_872 my_H_heldInAll mv_H_heldInAll ⟨_, rfl, rfl⟩ (xH_heldInAll hG (d - 1) (by omega) hq12) (by omega) h13 rfl rfl (Nat.le_of_ble_eq_true rfl) ?_
    obtain rfl := Option.some.inj h
    exact zz_iret C E ddA_image_35
  · replace h := iteT h hc
    refine zz_iconst (v := (-1)) C ddA_image_10 (by decide) ?_
    obtain rfl := Option.some.inj h
    exact zz_iret C E ddA_image_11
theorem ddA_back_0 : decode cA_back 0 = .ok (.aload_n 0, 1) := by decide +kernel
theorem ddA_back_1 : decode cA_back 1 = .ok (.getfield 69, 3) := by decide +kernel
theorem ddA_back_4 : decode cA_back 4 = .ok (.ifCond .ne 5, 3) := by decide +kernel
theorem ddA_back_7 : decode cA_back 7 = .ok (.iconst (-1), 1) := by decide +kernel
theorem ddA_back_8 : decode cA_back 8 = .ok (.ireturn, 1) := by decide +kernel
theorem ddA_back_9 : decode cA_back 9 = .ok (.aload_n 0, 1) := by decide +kernel
theorem ddA_back_10 : decode cA_back 10 = .ok (.getfield 55, 3) := by decide +kernel
theorem ddA_back_13 : decode cA_back 13 = .ok (.aload_n 0, 1) := by decide +kernel
theorem ddA_back_14 : decode cA_back 14 = .ok (.getfield 66, 3) := by decide +kernel
theorem ddA_back_17 : decode cA_back 17 = .ok (.invokevirtual 335, 3) := by decide +kernel
theorem ddA_back_20 : decode cA_back 20 = .ok (.aload_n 0, 1) := by decide +kernel
theorem ddA_back_21 : decode cA_back 21 = .ok (.getfield 62, 3) := by decide +kernel
theorem ddA_back_24 : decode cA_back 24 = .ok (.invokevirtual 123, 3) := by decide +kernel
theorem ddA_back_27 : decode cA_back 27 = .ok (.aload_n 0, 1) := by decide +kernel
theorem ddA_back_28 : decode cA_back 28 = .ok (.getfield 55, 3) := by decide +kernel
theorem ddA_back_31 : decode cA_back 31 = .ok (.invokevirtual 259, 3) := by decide +kernel
theorem ddA_back_34 : decode cA_back 34 = .ok (.ireturn, 1) := by decide +kernel
set_option maxHeartbeats 2000000 in
theorem xA_back {G : GXM} {l : Launch} (hG : GokM G) (d : Nat) (hd : 3 ≤ d) {v0 : Nat} {M : Mem} {q : Int32 × Mem} (h : fA_back v0 M = some q) : ExM G l d 0 0 yA_back cA_back 1 (some .int) [.ref v0] M (some (.int q.1)) q.2 := by
  refine ex_of hG (by decide +kernel) (Nat.le_of_ble_eq_true rfl) ?_
  intro X hl C E N hD hn
  show ZM G X 0 [(0, .ref v0)] [] M 0 0
  unfold fA_back at h
  refine zz_aload_n C 0 ddA_back_0 rfl rfl ?_
  obtain ⟨h1, h⟩ := gdN h
  refine zz_geti C ddA_back_1 fl_A_69 rfl h1 ?_
  refine zz_if_ne (tgt := 9) C ddA_back_4 rfl (fun hc => ?_) (fun hc => ?_)
  · replace h := iteF h hc
    refine zz_aload_n C 0 ddA_back_9 rfl rfl ?_
    obtain ⟨h2, h⟩ := gdN h
    refine zz_getr C ddA_back_10 fl_A_55 rfl h1 (of_decide_eq_true h2) ?_
    refine zz_aload_n C 0 ddA_back_13 rfl rfl ?_
    obtain ⟨h3, h⟩ := gdN h
    refine zz_getr C ddA_back_14 fl_A_66 rfl h1 (of_decide_eq_true h3) ?_
    obtain ⟨h5, h⟩ := gdN h
    obtain ⟨q4, hq4, h⟩ := bindN h
    refine zz_callV0 (As := [.ref (grM M v0 9)]) C ddA_back_17 wd_963 my_H_copyFrom mv_H_copyFrom ⟨_, rfl, rfl⟩ (xH_copyFrom hG (d - 1) (by omega) hq4) (by omega) h5 rfl rfl (Nat.le_of_ble_eq_true rfl) ?_
    refine zz_aload_n C 0 ddA_back_20 rfl rfl ?_
    obtain ⟨h6, h⟩ := gdN h
    obtain ⟨h7, h⟩ := gdN h
    refine zz_getr C ddA_back_21 fl_A_62 rfl h6 (of_decide_eq_true h7) ?_
    obtain ⟨h9, h⟩ := gdN h
    obtain ⟨q8, hq8, h⟩ := bindN h
    refine zz_callV0 (As := []) C ddA_back_24 wd_549 my_P_forget mv_P_forget ⟨_, rfl, rfl⟩ (xP_forget hG (d - 1) (by omega) hq8) (by omega) h9 rfl rfl (Nat.le_of_ble_eq_true rfl) ?_
    refine zz_aload_n C 0 ddA_back_27 rfl rfl ?_
    obtain ⟨h10, h⟩ := gdN h
    obtain ⟨h11, h⟩ := gdN h
    refine zz_getr C ddA_back_28 fl_A_55 rfl h10 (of_decide_eq_true h11) ?_
    obtain ⟨h13, h⟩ := gdN h
    obtain ⟨q12, hq12, h⟩ := bindN h
    refine zz_callV0 (As := []) C ddA_back_31 wd_872 my_H_heldInAll mv_H_heldInAll ⟨_, rfl, rfl⟩ (xH_heldInAll hG (d - 1) (by omega) hq12) (by omega) h13 rfl rfl (Nat.le_of_ble_eq_true rfl) ?_
    obtain rfl := Option.some.inj h
    exact zz_iret C E ddA_back_34
  · replace h := iteT h hc
    refine zz_iconst (v := (-1)) C ddA_back_7 (by decide) ?_
    obtain rfl := Option.some.inj h
    exact zz_iret C E ddA_back_8
theorem ddA_count_0 : decode cA_count 0 = .ok (.iload_n 1, 1) := by decide +kernel
theorem ddA_count_1 : decode cA_count 1 = .ok (.tableswitch 75 0 4 #[35, 43, 48, 56, 67], 35) := by decide +kernel
theorem ddA_count_36 : decode cA_count 36 = .ok (.aload_n 0, 1) := by decide +kernel
theorem ddA_count_37 : decode cA_count 37 = .ok (.getfield 28, 3) := by decide +kernel
theorem ddA_count_40 : decode cA_count 40 = .ok (.getfield 126, 3) := by decide +kernel
theorem ddA_count_43 : decode cA_count 43 = .ok (.ireturn, 1) := by decide +kernel
theorem ddA_count_44 : decode cA_count 44 = .ok (.aload_n 0, 1) := by decide +kernel
theorem ddA_count_45 : decode cA_count 45 = .ok (.getfield 42, 3) := by decide +kernel
theorem ddA_count_48 : decode cA_count 48 = .ok (.ireturn, 1) := by decide +kernel
theorem ddA_count_49 : decode cA_count 49 = .ok (.aload_n 0, 1) := by decide +kernel
theorem ddA_count_50 : decode cA_count 50 = .ok (.getfield 12, 3) := by decide +kernel
theorem ddA_count_53 : decode cA_count 53 = .ok (.getfield 98, 3) := by decide +kernel
theorem ddA_count_56 : decode cA_count 56 = .ok (.ireturn, 1) := by decide +kernel
theorem ddA_count_57 : decode cA_count 57 = .ok (.aload_n 0, 1) := by decide +kernel
theorem ddA_count_58 : decode cA_count 58 = .ok (.getfield 55, 3) := by decide +kernel
theorem ddA_count_61 : decode cA_count 61 = .ok (.getfield 280, 3) := by decide +kernel
theorem ddA_count_64 : decode cA_count 64 = .ok (.invokevirtual 284, 3) := by decide +kernel
theorem ddA_count_67 : decode cA_count 67 = .ok (.ireturn, 1) := by decide +kernel
theorem ddA_count_68 : decode cA_count 68 = .ok (.aload_n 0, 1) := by decide +kernel
theorem ddA_count_69 : decode cA_count 69 = .ok (.getfield 62, 3) := by decide +kernel
theorem ddA_count_72 : decode cA_count 72 = .ok (.getfield 393, 3) := by decide +kernel
theorem ddA_count_75 : decode cA_count 75 = .ok (.ireturn, 1) := by decide +kernel
theorem ddA_count_76 : decode cA_count 76 = .ok (.ldc_w 300, 3) := by decide +kernel
theorem ddA_count_79 : decode cA_count 79 = .ok (.ireturn, 1) := by decide +kernel
set_option maxHeartbeats 2000000 in
theorem xA_count {G : GXM} {l : Launch} (hG : GokM G) (d : Nat) (hd : 2 ≤ d) {v0 : Nat} {v1 : Int32} {M : Mem} {q : Int32 × Mem} (h : fA_count v0 v1 M = some q) : ExM G l d 0 0 yA_count cA_count 2 (some .int) [.ref v0, .int v1] M (some (.int q.1)) q.2 := by
  refine ex_of hG (by decide +kernel) (Nat.le_of_ble_eq_true rfl) ?_
  intro X hl C E N hD hn
  show ZM G X 0 [(0, .ref v0), (1, .int v1)] [] M 0 0
  unfold fA_count at h
  refine zz_iload_n C 1 ddA_count_0 rfl rfl ?_
  by_cases hs1_0 : v1 = 0
  · replace h := iteT h hs1_0
    rw [hs1_0]
    refine zz_tableIn (tgt := 36) C ddA_count_1 (by decide) (by decide) rfl rfl ?_
    refine zz_aload_n C 0 ddA_count_36 rfl rfl ?_
    obtain ⟨h1, h⟩ := gdN h
    obtain ⟨h2, h⟩ := gdN h
    refine zz_getr C ddA_count_37 fl_A_28 rfl h1 (of_decide_eq_true h2) ?_
    obtain ⟨h3, h⟩ := gdN h
    refine zz_geti C ddA_count_40 fl_A_126 rfl h3 ?_
    obtain rfl := Option.some.inj h
    exact zz_iret C E ddA_count_43
  replace h := iteF h hs1_0
  by_cases hs1_1 : v1 = 1
  · replace h := iteT h hs1_1
    rw [hs1_1]
    refine zz_tableIn (tgt := 44) C ddA_count_1 (by decide) (by decide) rfl rfl ?_
    refine zz_aload_n C 0 ddA_count_44 rfl rfl ?_
    obtain ⟨h4, h⟩ := gdN h
    refine zz_geti C ddA_count_45 fl_A_42 rfl h4 ?_
    obtain rfl := Option.some.inj h
    exact zz_iret C E ddA_count_48
  replace h := iteF h hs1_1
  by_cases hs1_2 : v1 = 2
  · replace h := iteT h hs1_2
    rw [hs1_2]
    refine zz_tableIn (tgt := 49) C ddA_count_1 (by decide) (by decide) rfl rfl ?_
    refine zz_aload_n C 0 ddA_count_49 rfl rfl ?_
    obtain ⟨h5, h⟩ := gdN h
    obtain ⟨h6, h⟩ := gdN h
    refine zz_getr C ddA_count_50 fl_A_12 rfl h5 (of_decide_eq_true h6) ?_
    obtain ⟨h7, h⟩ := gdN h
    refine zz_geti C ddA_count_53 fl_A_98 rfl h7 ?_
    obtain rfl := Option.some.inj h
    exact zz_iret C E ddA_count_56
  replace h := iteF h hs1_2
  by_cases hs1_3 : v1 = 3
  · replace h := iteT h hs1_3
    rw [hs1_3]
    refine zz_tableIn (tgt := 57) C ddA_count_1 (by decide) (by decide) rfl rfl ?_
    refine zz_aload_n C 0 ddA_count_57 rfl rfl ?_
    obtain ⟨h8, h⟩ := gdN h
    obtain ⟨h9, h⟩ := gdN h
    refine zz_getr C ddA_count_58 fl_A_55 rfl h8 (of_decide_eq_true h9) ?_
    obtain ⟨h10, h⟩ := gdN h
    obtain ⟨h11, h⟩ := gdN h
    refine zz_getr C ddA_count_61 fl_A_280 rfl h10 (of_decide_eq_true h11) ?_
    obtain ⟨h13, h⟩ := gdN h
    obtain ⟨q12, hq12, h⟩ := bindN h
    refine zz_callV0 (As := []) C ddA_count_64 wd_900 my_L_length mv_L_length ⟨_, rfl, rfl⟩ (xL_length hG (d - 1) (by omega) hq12) (by omega) h13 rfl rfl (Nat.le_of_ble_eq_true rfl) ?_
    obtain rfl := Option.some.inj h
    exact zz_iret C E ddA_count_67
  replace h := iteF h hs1_3
  by_cases hs1_4 : v1 = 4
  · replace h := iteT h hs1_4
    rw [hs1_4]
    refine zz_tableIn (tgt := 68) C ddA_count_1 (by decide) (by decide) rfl rfl ?_
    refine zz_aload_n C 0 ddA_count_68 rfl rfl ?_
    obtain ⟨h14, h⟩ := gdN h
    obtain ⟨h15, h⟩ := gdN h
    refine zz_getr C ddA_count_69 fl_A_62 rfl h14 (of_decide_eq_true h15) ?_
    obtain ⟨h16, h⟩ := gdN h
    refine zz_geti C ddA_count_72 fl_A_393 rfl h16 ?_
    obtain rfl := Option.some.inj h
    exact zz_iret C E ddA_count_75
  replace h := iteF h hs1_4
  have ths1_0 := lv_neT (a := 0) hs1_0 (by decide)
  have ths1_1 := lv_neT (a := 1) hs1_1 (by decide)
  have ths1_2 := lv_neT (a := 2) hs1_2 (by decide)
  have ths1_3 := lv_neT (a := 3) hs1_3 (by decide)
  have ths1_4 := lv_neT (a := 4) hs1_4 (by decide)
  refine zz_tableOut (tgt := 76) C ddA_count_1 (by omega) rfl ?_
  refine zz_ldcw C ddA_count_76 wd_925 rfl ?_
  obtain rfl := Option.some.inj h
  exact zz_iret C E ddA_count_79
theorem ddM_thrown_0 : decode cM_thrown 0 = .ok (.aload_n 0, 1) := by decide +kernel
theorem ddM_thrown_1 : decode cM_thrown 1 = .ok (.getfield 64, 3) := by decide +kernel
theorem ddM_thrown_4 : decode cM_thrown 4 = .ok (.ireturn, 1) := by decide +kernel
set_option maxHeartbeats 2000000 in
theorem xM_thrown {G : GXM} {l : Launch} (hG : GokM G) (d : Nat) (hd : 0 ≤ d) {v0 : Nat} {M : Mem} {q : Int32 × Mem} (h : fM_thrown v0 M = some q) : ExM G l d 0 0 yM_thrown cM_thrown 1 (some .int) [.ref v0] M (some (.int q.1)) q.2 := by
  refine ex_of hG (by decide +kernel) (Nat.le_of_ble_eq_true rfl) ?_
  intro X hl C E N hD hn
  show ZM G X 0 [(0, .ref v0)] [] M 0 0
  unfold fM_thrown at h
  refine zz_aload_n C 0 ddM_thrown_0 rfl rfl ?_
  obtain ⟨h1, h⟩ := gdN h
  refine zz_geti C ddM_thrown_1 fl_M_64 rfl h1 ?_
  obtain rfl := Option.some.inj h
  exact zz_iret C E ddM_thrown_4
theorem ddM_byteOf_0 : decode cM_byteOf 0 = .ok (.iload 5, 2) := by decide +kernel
theorem ddM_byteOf_2 : decode cM_byteOf 2 = .ok (.iconst 4, 1) := by decide +kernel
theorem ddM_byteOf_3 : decode cM_byteOf 3 = .ok (.if_icmp .ge 7, 3) := by decide +kernel
theorem ddM_byteOf_6 : decode cM_byteOf 6 = .ok (.iload_n 0, 1) := by decide +kernel
theorem ddM_byteOf_7 : decode cM_byteOf 7 = .ok (.goto 38, 3) := by decide +kernel
theorem ddM_byteOf_10 : decode cM_byteOf 10 = .ok (.iload 5, 2) := by decide +kernel
theorem ddM_byteOf_12 : decode cM_byteOf 12 = .ok (.bipush 8, 2) := by decide +kernel
theorem ddM_byteOf_14 : decode cM_byteOf 14 = .ok (.if_icmp .ge 7, 3) := by decide +kernel
theorem ddM_byteOf_17 : decode cM_byteOf 17 = .ok (.iload_n 1, 1) := by decide +kernel
theorem ddM_byteOf_18 : decode cM_byteOf 18 = .ok (.goto 27, 3) := by decide +kernel
theorem ddM_byteOf_21 : decode cM_byteOf 21 = .ok (.iload 5, 2) := by decide +kernel
theorem ddM_byteOf_23 : decode cM_byteOf 23 = .ok (.bipush 12, 2) := by decide +kernel
theorem ddM_byteOf_25 : decode cM_byteOf 25 = .ok (.if_icmp .ge 7, 3) := by decide +kernel
theorem ddM_byteOf_28 : decode cM_byteOf 28 = .ok (.iload_n 2, 1) := by decide +kernel
theorem ddM_byteOf_29 : decode cM_byteOf 29 = .ok (.goto 16, 3) := by decide +kernel
theorem ddM_byteOf_32 : decode cM_byteOf 32 = .ok (.iload 5, 2) := by decide +kernel
theorem ddM_byteOf_34 : decode cM_byteOf 34 = .ok (.bipush 16, 2) := by decide +kernel
theorem ddM_byteOf_36 : decode cM_byteOf 36 = .ok (.if_icmp .ge 7, 3) := by decide +kernel
theorem ddM_byteOf_39 : decode cM_byteOf 39 = .ok (.iload_n 3, 1) := by decide +kernel
theorem ddM_byteOf_40 : decode cM_byteOf 40 = .ok (.goto 5, 3) := by decide +kernel
theorem ddM_byteOf_43 : decode cM_byteOf 43 = .ok (.iload 4, 2) := by decide +kernel
theorem ddM_byteOf_45 : decode cM_byteOf 45 = .ok (.istore 6, 2) := by decide +kernel
theorem ddM_byteOf_47 : decode cM_byteOf 47 = .ok (.iload 6, 2) := by decide +kernel
theorem ddM_byteOf_49 : decode cM_byteOf 49 = .ok (.bipush 24, 2) := by decide +kernel
theorem ddM_byteOf_51 : decode cM_byteOf 51 = .ok (.bipush 8, 2) := by decide +kernel
theorem ddM_byteOf_53 : decode cM_byteOf 53 = .ok (.iload 5, 2) := by decide +kernel
theorem ddM_byteOf_55 : decode cM_byteOf 55 = .ok (.iconst 4, 1) := by decide +kernel
theorem ddM_byteOf_56 : decode cM_byteOf 56 = .ok (.irem, 1) := by decide +kernel
theorem ddM_byteOf_57 : decode cM_byteOf 57 = .ok (.imul, 1) := by decide +kernel
theorem ddM_byteOf_58 : decode cM_byteOf 58 = .ok (.isub, 1) := by decide +kernel
theorem ddM_byteOf_59 : decode cM_byteOf 59 = .ok (.ishr, 1) := by decide +kernel
theorem ddM_byteOf_60 : decode cM_byteOf 60 = .ok (.sipush 255, 3) := by decide +kernel
theorem ddM_byteOf_63 : decode cM_byteOf 63 = .ok (.iand, 1) := by decide +kernel
theorem ddM_byteOf_64 : decode cM_byteOf 64 = .ok (.ireturn, 1) := by decide +kernel
set_option maxHeartbeats 2000000 in
theorem zBM_byteOf_45 {G : GXM} {X : CxM} (hG : GokM G) (C : CoM G X cM_byteOf "HomeFreedModel") (N : mLM X = 7) {d : Nat} (hD : dpM X = d) (hd : 0 ≤ d)  {q : Int32 × Mem} (E : EnM G X (some .int) (some (.int q.1)) q.2 0 0) {v5 : Int32} {w0 : Int32} {M : Mem} (h : BM_byteOf_45 v5 w0 M = some q) : ZM G X 45 [(5, .int v5)] [.int w0] M 0 0 := by
  unfold BM_byteOf_45 at h
  refine zz_istore (L1 := [(6, .int w0), (5, .int v5)]) C ddM_byteOf_45 N (by decide) rfl ?_
  refine zz_iload C 0 ddM_byteOf_47 rfl ?_
  refine zz_bipush (v := 24) C ddM_byteOf_49 (by decide) ?_
  refine zz_bipush (v := 8) C ddM_byteOf_51 (by decide) ?_
  refine zz_iload C 1 ddM_byteOf_53 rfl ?_
  refine zz_iconst (v := 4) C ddM_byteOf_55 (by decide) ?_
  refine zz_irem C ddM_byteOf_56 (by decide) ?_
  refine zz_imul C ddM_byteOf_57 ?_
  refine zz_isub C ddM_byteOf_58 ?_
  refine zz_ishr C ddM_byteOf_59 ?_
  refine zz_sipush (v := 255) C ddM_byteOf_60 (by decide) ?_
  refine zz_iand C ddM_byteOf_63 ?_
  obtain rfl := Option.some.inj h
  exact zz_iret C E ddM_byteOf_64
set_option maxHeartbeats 2000000 in
theorem xM_byteOf {G : GXM} {l : Launch} (hG : GokM G) (d : Nat) (hd : 0 ≤ d) {v0 : Int32} {v1 : Int32} {v2 : Int32} {v3 : Int32} {v4 : Int32} {v5 : Int32} {M : Mem} {q : Int32 × Mem} (h : fM_byteOf v0 v1 v2 v3 v4 v5 M = some q) : ExM G l d 0 0 yM_byteOf cM_byteOf 7 (some .int) [.int v0, .int v1, .int v2, .int v3, .int v4, .int v5] M (some (.int q.1)) q.2 := by
  refine ex_of hG (by decide +kernel) (Nat.le_of_ble_eq_true rfl) ?_
  intro X hl C E N hD hn
  show ZM G X 0 [(0, .int v0), (1, .int v1), (2, .int v2), (3, .int v3), (4, .int v4), (5, .int v5)] [] M 0 0
  unfold fM_byteOf at h
  refine zz_iload C 5 ddM_byteOf_0 rfl ?_
  refine zz_iconst (v := 4) C ddM_byteOf_2 (by decide) ?_
  refine zz_icmp_ge (tgt := 10) C ddM_byteOf_3 rfl (fun hc => ?_) (fun hc => ?_)
  · replace h := iteT h hc
    refine zz_iload C 5 ddM_byteOf_10 rfl ?_
    refine zz_bipush (v := 8) C ddM_byteOf_12 (by decide) ?_
    refine zz_icmp_ge (tgt := 21) C ddM_byteOf_14 rfl (fun hc => ?_) (fun hc => ?_)
    · replace h := iteT h hc
      refine zz_iload C 5 ddM_byteOf_21 rfl ?_
      refine zz_bipush (v := 12) C ddM_byteOf_23 (by decide) ?_
      refine zz_icmp_ge (tgt := 32) C ddM_byteOf_25 rfl (fun hc => ?_) (fun hc => ?_)
      · replace h := iteT h hc
        refine zz_iload C 5 ddM_byteOf_32 rfl ?_
        refine zz_bipush (v := 16) C ddM_byteOf_34 (by decide) ?_
        refine zz_icmp_ge (tgt := 43) C ddM_byteOf_36 rfl (fun hc => ?_) (fun hc => ?_)
        · replace h := iteT h hc
          refine zz_iload C 4 ddM_byteOf_43 rfl ?_
          refine zz_loc (L1 := [(5, .int v5)]) [5] rfl ?_
          exact zBM_byteOf_45 hG C N hD hd E h
        · replace h := iteF h hc
          refine zz_iload_n C 3 ddM_byteOf_39 rfl rfl ?_
          refine zz_goto (tgt := 45) C ddM_byteOf_40 rfl ?_
          refine zz_loc (L1 := [(5, .int v5)]) [5] rfl ?_
          exact zBM_byteOf_45 hG C N hD hd E h
      · replace h := iteF h hc
        refine zz_iload_n C 2 ddM_byteOf_28 rfl rfl ?_
        refine zz_goto (tgt := 45) C ddM_byteOf_29 rfl ?_
        refine zz_loc (L1 := [(5, .int v5)]) [5] rfl ?_
        exact zBM_byteOf_45 hG C N hD hd E h
    · replace h := iteF h hc
      refine zz_iload_n C 1 ddM_byteOf_17 rfl rfl ?_
      refine zz_goto (tgt := 45) C ddM_byteOf_18 rfl ?_
      refine zz_loc (L1 := [(5, .int v5)]) [5] rfl ?_
      exact zBM_byteOf_45 hG C N hD hd E h
  · replace h := iteF h hc
    refine zz_iload_n C 0 ddM_byteOf_6 rfl rfl ?_
    refine zz_goto (tgt := 45) C ddM_byteOf_7 rfl ?_
    refine zz_loc (L1 := [(5, .int v5)]) [5] rfl ?_
    exact zBM_byteOf_45 hG C N hD hd E h
theorem ddM_feed_0 : decode cM_feed 0 = .ok (.iconst 0, 1) := by decide +kernel
theorem ddM_feed_1 : decode cM_feed 1 = .ok (.istore 6, 2) := by decide +kernel
theorem ddM_feed_3 : decode cM_feed 3 = .ok (.iconst 0, 1) := by decide +kernel
theorem ddM_feed_4 : decode cM_feed 4 = .ok (.istore 7, 2) := by decide +kernel
theorem ddM_feed_6 : decode cM_feed 6 = .ok (.iload 7, 2) := by decide +kernel
theorem ddM_feed_8 : decode cM_feed 8 = .ok (.bipush 20, 2) := by decide +kernel
theorem ddM_feed_10 : decode cM_feed 10 = .ok (.if_icmp .ge 34, 3) := by decide +kernel
theorem ddM_feed_13 : decode cM_feed 13 = .ok (.iload 6, 2) := by decide +kernel
theorem ddM_feed_15 : decode cM_feed 15 = .ok (.iload_n 1, 1) := by decide +kernel
theorem ddM_feed_16 : decode cM_feed 16 = .ok (.iload_n 2, 1) := by decide +kernel
theorem ddM_feed_17 : decode cM_feed 17 = .ok (.iload_n 3, 1) := by decide +kernel
theorem ddM_feed_18 : decode cM_feed 18 = .ok (.iload 4, 2) := by decide +kernel
theorem ddM_feed_20 : decode cM_feed 20 = .ok (.iload 5, 2) := by decide +kernel
theorem ddM_feed_22 : decode cM_feed 22 = .ok (.iload 7, 2) := by decide +kernel
theorem ddM_feed_24 : decode cM_feed 24 = .ok (.invokestatic 68, 3) := by decide +kernel
theorem ddM_feed_27 : decode cM_feed 27 = .ok (.ifCond .eq 7, 3) := by decide +kernel
theorem ddM_feed_30 : decode cM_feed 30 = .ok (.iconst 1, 1) := by decide +kernel
theorem ddM_feed_31 : decode cM_feed 31 = .ok (.goto 4, 3) := by decide +kernel
theorem ddM_feed_34 : decode cM_feed 34 = .ok (.iconst 0, 1) := by decide +kernel
theorem ddM_feed_35 : decode cM_feed 35 = .ok (.iadd, 1) := by decide +kernel
theorem ddM_feed_36 : decode cM_feed 36 = .ok (.istore 6, 2) := by decide +kernel
theorem ddM_feed_38 : decode cM_feed 38 = .ok (.iinc 7 1, 3) := by decide +kernel
theorem ddM_feed_41 : decode cM_feed 41 = .ok (.goto (-35), 3) := by decide +kernel
theorem ddM_feed_44 : decode cM_feed 44 = .ok (.aload_n 0, 1) := by decide +kernel
theorem ddM_feed_45 : decode cM_feed 45 = .ok (.getfield 72, 3) := by decide +kernel
theorem ddM_feed_48 : decode cM_feed 48 = .ok (.iload 6, 2) := by decide +kernel
theorem ddM_feed_50 : decode cM_feed 50 = .ok (.iadd, 1) := by decide +kernel
theorem ddM_feed_51 : decode cM_feed 51 = .ok (.sipush 240, 3) := by decide +kernel
theorem ddM_feed_54 : decode cM_feed 54 = .ok (.if_icmp .le 5, 3) := by decide +kernel
theorem ddM_feed_57 : decode cM_feed 57 = .ok (.iconst (-1), 1) := by decide +kernel
theorem ddM_feed_58 : decode cM_feed 58 = .ok (.ireturn, 1) := by decide +kernel
theorem ddM_feed_59 : decode cM_feed 59 = .ok (.iconst 0, 1) := by decide +kernel
theorem ddM_feed_60 : decode cM_feed 60 = .ok (.istore 7, 2) := by decide +kernel
theorem ddM_feed_62 : decode cM_feed 62 = .ok (.iload 7, 2) := by decide +kernel
theorem ddM_feed_64 : decode cM_feed 64 = .ok (.bipush 20, 2) := by decide +kernel
theorem ddM_feed_66 : decode cM_feed 66 = .ok (.if_icmp .ge 49, 3) := by decide +kernel
theorem ddM_feed_69 : decode cM_feed 69 = .ok (.iload_n 1, 1) := by decide +kernel
theorem ddM_feed_70 : decode cM_feed 70 = .ok (.iload_n 2, 1) := by decide +kernel
theorem ddM_feed_71 : decode cM_feed 71 = .ok (.iload_n 3, 1) := by decide +kernel
theorem ddM_feed_72 : decode cM_feed 72 = .ok (.iload 4, 2) := by decide +kernel
theorem ddM_feed_74 : decode cM_feed 74 = .ok (.iload 5, 2) := by decide +kernel
theorem ddM_feed_76 : decode cM_feed 76 = .ok (.iload 7, 2) := by decide +kernel
theorem ddM_feed_78 : decode cM_feed 78 = .ok (.invokestatic 68, 3) := by decide +kernel
theorem ddM_feed_81 : decode cM_feed 81 = .ok (.istore 8, 2) := by decide +kernel
theorem ddM_feed_83 : decode cM_feed 83 = .ok (.iload 8, 2) := by decide +kernel
theorem ddM_feed_85 : decode cM_feed 85 = .ok (.ifCond .eq 24, 3) := by decide +kernel
theorem ddM_feed_88 : decode cM_feed 88 = .ok (.aload_n 0, 1) := by decide +kernel
theorem ddM_feed_89 : decode cM_feed 89 = .ok (.getfield 9, 3) := by decide +kernel
theorem ddM_feed_92 : decode cM_feed 92 = .ok (.aload_n 0, 1) := by decide +kernel
theorem ddM_feed_93 : decode cM_feed 93 = .ok (.getfield 72, 3) := by decide +kernel
theorem ddM_feed_96 : decode cM_feed 96 = .ok (.iload 8, 2) := by decide +kernel
theorem ddM_feed_98 : decode cM_feed 98 = .ok (.iastore, 1) := by decide +kernel
theorem ddM_feed_99 : decode cM_feed 99 = .ok (.aload_n 0, 1) := by decide +kernel
theorem ddM_feed_100 : decode cM_feed 100 = .ok (.dup, 1) := by decide +kernel
theorem ddM_feed_101 : decode cM_feed 101 = .ok (.getfield 72, 3) := by decide +kernel
theorem ddM_feed_104 : decode cM_feed 104 = .ok (.iconst 1, 1) := by decide +kernel
theorem ddM_feed_105 : decode cM_feed 105 = .ok (.iadd, 1) := by decide +kernel
theorem ddM_feed_106 : decode cM_feed 106 = .ok (.putfield 72, 3) := by decide +kernel
theorem ddM_feed_109 : decode cM_feed 109 = .ok (.iinc 7 1, 3) := by decide +kernel
theorem ddM_feed_112 : decode cM_feed 112 = .ok (.goto (-50), 3) := by decide +kernel
theorem ddM_feed_115 : decode cM_feed 115 = .ok (.aload_n 0, 1) := by decide +kernel
theorem ddM_feed_116 : decode cM_feed 116 = .ok (.getfield 72, 3) := by decide +kernel
theorem ddM_feed_119 : decode cM_feed 119 = .ok (.ireturn, 1) := by decide +kernel
set_option maxHeartbeats 2000000 in
theorem zBM_feed_109 {G : GXM} {X : CxM} (hG : GokM G) (C : CoM G X cM_feed "HomeFreedModel") (N : mLM X = 9) {d : Nat} (hD : dpM X = d) (hd : 1 ≤ d) {v0 : Nat} {v1 : Int32} {v2 : Int32} {v3 : Int32} {v4 : Int32} {v5 : Int32} {K : Nat → Int32 → Int32 → Int32 → Int32 → Int32 → Int32 → Mem → Option ((Int32 × Mem))} {q : (Int32 × Mem)} (hK : ∀ (v7 : Int32) (M : Mem), K v0 v1 v2 v3 v4 v5 v7 M = some q → ZM G X 62 [(0, .ref v0), (1, .int v1), (2, .int v2), (3, .int v3), (4, .int v4), (5, .int v5), (7, .int v7)] [] M 0 0) (hr : ∀ r : Int32 × Mem, q =  r → EnM G X (some .int) (some (.int r.1)) r.2 0 0) {v7 : Int32} {M : Mem} (h : BM_feed_109 K v0 v1 v2 v3 v4 v5 v7 M = some q) : ZM G X 109 [(0, .ref v0), (1, .int v1), (2, .int v2), (3, .int v3), (4, .int v4), (5, .int v5), (7, .int v7)] [] M 0 0 := by
  unfold BM_feed_109 at h
  refine zz_iinc (v := v7 + 1) (L1 := [(7, .int (v7 + 1)), (0, .ref v0), (1, .int v1), (2, .int v2), (3, .int v3), (4, .int v4), (5, .int v5)]) C 6 ddM_feed_109 rfl rfl N (by decide) rfl ?_
  refine zz_goto (tgt := 62) C ddM_feed_112 rfl ?_
  refine zz_loc (L1 := [(0, .ref v0), (1, .int v1), (2, .int v2), (3, .int v3), (4, .int v4), (5, .int v5), (7, .int (v7 + 1))]) [1, 2, 3, 4, 5, 6, 0] rfl ?_
  exact hK _ _ h
set_option maxHeartbeats 2000000 in
theorem zBM_feed_62 {G : GXM} {X : CxM} (hG : GokM G) (C : CoM G X cM_feed "HomeFreedModel") (N : mLM X = 9) {d : Nat} (hD : dpM X = d) (hd : 1 ≤ d) {v0 : Nat} {v1 : Int32} {v2 : Int32} {v3 : Int32} {v4 : Int32} {v5 : Int32} {K : Nat → Int32 → Int32 → Int32 → Int32 → Int32 → Int32 → Mem → Option ((Int32 × Mem))} {q : (Int32 × Mem)} (hK : ∀ (v7 : Int32) (M : Mem), K v0 v1 v2 v3 v4 v5 v7 M = some q → ZM G X 62 [(0, .ref v0), (1, .int v1), (2, .int v2), (3, .int v3), (4, .int v4), (5, .int v5), (7, .int v7)] [] M 0 0) (hr : ∀ r : Int32 × Mem, q =  r → EnM G X (some .int) (some (.int r.1)) r.2 0 0) {v7 : Int32} {M : Mem} (h : BM_feed_62 K v0 v1 v2 v3 v4 v5 v7 M = some q) : ZM G X 62 [(0, .ref v0), (1, .int v1), (2, .int v2), (3, .int v3), (4, .int v4), (5, .int v5), (7, .int v7)] [] M 0 0 := by
  unfold BM_feed_62 at h
  refine zz_iload C 6 ddM_feed_62 rfl ?_
  refine zz_bipush (v := 20) C ddM_feed_64 (by decide) ?_
  refine zz_icmp_ge (tgt := 115) C ddM_feed_66 rfl (fun hc => ?_) (fun hc => ?_)
  · replace h := iteT h hc
    refine zz_aload_n C 0 ddM_feed_115 rfl rfl ?_
    obtain ⟨h1, h⟩ := gdN h
    refine zz_geti C ddM_feed_116 fl_M_72 rfl h1 ?_
    exact zz_iret C (hr _ (Option.some.inj h).symm) ddM_feed_119
  · replace h := iteF h hc
    refine zz_iload_n C 1 ddM_feed_69 rfl rfl ?_
    refine zz_iload_n C 2 ddM_feed_70 rfl rfl ?_
    refine zz_iload_n C 3 ddM_feed_71 rfl rfl ?_
    refine zz_iload C 4 ddM_feed_72 rfl ?_
    refine zz_iload C 5 ddM_feed_74 rfl ?_
    refine zz_iload C 6 ddM_feed_76 rfl ?_
    obtain ⟨q2, hq2, h⟩ := bindN h
    refine zz_callS0 (As := [.int v1, .int v2, .int v3, .int v4, .int v5, .int v7]) C ddM_feed_78 wd_1282 my_M_byteOf mv_M_byteOf (xM_byteOf hG (d - 1) (by omega) hq2) (by omega) rfl rfl (Nat.le_of_ble_eq_true rfl) ?_
    refine zz_istore (L1 := [(8, .int q2.1), (0, .ref v0), (1, .int v1), (2, .int v2), (3, .int v3), (4, .int v4), (5, .int v5), (7, .int v7)]) C ddM_feed_81 N (by decide) rfl ?_
    refine zz_iload C 0 ddM_feed_83 rfl ?_
    refine zz_if_eq (tgt := 109) C ddM_feed_85 rfl (fun hc => ?_) (fun hc => ?_)
    · replace h := iteT h hc
      refine zz_loc (L1 := [(0, .ref v0), (1, .int v1), (2, .int v2), (3, .int v3), (4, .int v4), (5, .int v5), (7, .int v7)]) [1, 2, 3, 4, 5, 6, 7] rfl ?_
      exact zBM_feed_109 hG C N hD hd hK hr h
    · replace h := iteF h hc
      refine zz_aload_n C 1 ddM_feed_88 rfl rfl ?_
      obtain ⟨h3, h⟩ := gdN h
      obtain ⟨h4, h⟩ := gdN h
      refine zz_getr C ddM_feed_89 fl_M_9 rfl h3 (of_decide_eq_true h4) ?_
      refine zz_aload_n C 1 ddM_feed_92 rfl rfl ?_
      refine zz_geti C ddM_feed_93 fl_M_72 rfl h3 ?_
      refine zz_iload C 0 ddM_feed_96 rfl ?_
      obtain ⟨h5, h⟩ := gdN h
      refine zz_iastore C ddM_feed_98 h5 ?_
      refine zz_aload_n C 1 ddM_feed_99 rfl rfl ?_
      refine zz_dup C ddM_feed_100 rfl ?_
      refine zz_geti C ddM_feed_101 fl_M_72 rfl h3 ?_
      refine zz_iconst (v := 1) C ddM_feed_104 (by decide) ?_
      refine zz_iadd C ddM_feed_105 ?_
      refine zz_puti C ddM_feed_106 fl_M_72 rfl rfl rfl h3 ?_
      refine zz_loc (L1 := [(0, .ref v0), (1, .int v1), (2, .int v2), (3, .int v3), (4, .int v4), (5, .int v5), (7, .int v7)]) [1, 2, 3, 4, 5, 6, 7] rfl ?_
      exact zBM_feed_109 hG C N hD hd hK hr h
set_option maxHeartbeats 2000000 in
theorem zLM_feed_62 {G : GXM} {X : CxM} (hG : GokM G) (C : CoM G X cM_feed "HomeFreedModel") (N : mLM X = 9) {d : Nat} (hD : dpM X = d) (hd : 1 ≤ d) {v0 : Nat} {v1 : Int32} {v2 : Int32} {v3 : Int32} {v4 : Int32} {v5 : Int32} {q : (Int32 × Mem)} : ∀ (f : Nat) (v7 : Int32) (M : Mem), LM_feed_62 f v0 v1 v2 v3 v4 v5 v7 M = some q → (hr : ∀ r : Int32 × Mem, q =  r → EnM G X (some .int) (some (.int r.1)) r.2 0 0) → ZM G X 62 [(0, .ref v0), (1, .int v1), (2, .int v2), (3, .int v3), (4, .int v4), (5, .int v5), (7, .int v7)] [] M 0 0 := by
  intro f
  induction f with
  | zero => intro v7 M h; cases h
  | succ f ih =>
    intro v7 M h hr
    exact zBM_feed_62 hG C N hD hd (K := LM_feed_62 f) (q := q) (fun v7 M h => ih v7 M h hr) hr h
set_option maxHeartbeats 2000000 in
theorem zBM_feed_35 {G : GXM} {X : CxM} (hG : GokM G) (C : CoM G X cM_feed "HomeFreedModel") (N : mLM X = 9) {d : Nat} (hD : dpM X = d) (hd : 1 ≤ d) {v0 : Nat} {v1 : Int32} {v2 : Int32} {v3 : Int32} {v4 : Int32} {v5 : Int32} {K : Nat → Int32 → Int32 → Int32 → Int32 → Int32 → Int32 → Int32 → Mem → Option ((Int32 × Mem))} {q : (Int32 × Mem)} (hK : ∀ (v6 : Int32) (v7 : Int32) (M : Mem), K v0 v1 v2 v3 v4 v5 v6 v7 M = some q → ZM G X 6 [(0, .ref v0), (1, .int v1), (2, .int v2), (3, .int v3), (4, .int v4), (5, .int v5), (6, .int v6), (7, .int v7)] [] M 0 0) (hx0 : ∀ y : Int32 × Mem, q = y → ZM G X 44 [(0, .ref v0), (1, .int v1), (2, .int v2), (3, .int v3), (4, .int v4), (5, .int v5), (6, .int y.1)] [] y.2 0 0) {v7 : Int32} {w0 : Int32} {w1 : Int32} {M : Mem} (h : BM_feed_35 K v0 v1 v2 v3 v4 v5 v7 w0 w1 M = some q) : ZM G X 35 [(0, .ref v0), (1, .int v1), (2, .int v2), (3, .int v3), (4, .int v4), (5, .int v5), (7, .int v7)] [.int w1, .int w0] M 0 0 := by
  unfold BM_feed_35 at h
  refine zz_iadd C ddM_feed_35 ?_
  refine zz_istore (L1 := [(6, .int (w0 + w1)), (0, .ref v0), (1, .int v1), (2, .int v2), (3, .int v3), (4, .int v4), (5, .int v5), (7, .int v7)]) C ddM_feed_36 N (by decide) rfl ?_
  refine zz_iinc (v := v7 + 1) (L1 := [(7, .int (v7 + 1)), (6, .int (w0 + w1)), (0, .ref v0), (1, .int v1), (2, .int v2), (3, .int v3), (4, .int v4), (5, .int v5)]) C 7 ddM_feed_38 rfl rfl N (by decide) rfl ?_
  refine zz_goto (tgt := 6) C ddM_feed_41 rfl ?_
  refine zz_loc (L1 := [(0, .ref v0), (1, .int v1), (2, .int v2), (3, .int v3), (4, .int v4), (5, .int v5), (6, .int (w0 + w1)), (7, .int (v7 + 1))]) [2, 3, 4, 5, 6, 7, 1, 0] rfl ?_
  exact hK _ _ _ h
set_option maxHeartbeats 2000000 in
theorem zBM_feed_6 {G : GXM} {X : CxM} (hG : GokM G) (C : CoM G X cM_feed "HomeFreedModel") (N : mLM X = 9) {d : Nat} (hD : dpM X = d) (hd : 1 ≤ d) {v0 : Nat} {v1 : Int32} {v2 : Int32} {v3 : Int32} {v4 : Int32} {v5 : Int32} {K : Nat → Int32 → Int32 → Int32 → Int32 → Int32 → Int32 → Int32 → Mem → Option ((Int32 × Mem))} {q : (Int32 × Mem)} (hK : ∀ (v6 : Int32) (v7 : Int32) (M : Mem), K v0 v1 v2 v3 v4 v5 v6 v7 M = some q → ZM G X 6 [(0, .ref v0), (1, .int v1), (2, .int v2), (3, .int v3), (4, .int v4), (5, .int v5), (6, .int v6), (7, .int v7)] [] M 0 0) (hx0 : ∀ y : Int32 × Mem, q = y → ZM G X 44 [(0, .ref v0), (1, .int v1), (2, .int v2), (3, .int v3), (4, .int v4), (5, .int v5), (6, .int y.1)] [] y.2 0 0) {v6 : Int32} {v7 : Int32} {M : Mem} (h : BM_feed_6 K v0 v1 v2 v3 v4 v5 v6 v7 M = some q) : ZM G X 6 [(0, .ref v0), (1, .int v1), (2, .int v2), (3, .int v3), (4, .int v4), (5, .int v5), (6, .int v6), (7, .int v7)] [] M 0 0 := by
  unfold BM_feed_6 at h
  refine zz_iload C 7 ddM_feed_6 rfl ?_
  refine zz_bipush (v := 20) C ddM_feed_8 (by decide) ?_
  refine zz_icmp_ge (tgt := 44) C ddM_feed_10 rfl (fun hc => ?_) (fun hc => ?_)
  · replace h := iteT h hc
    refine zz_loc (L1 := [(0, .ref v0), (1, .int v1), (2, .int v2), (3, .int v3), (4, .int v4), (5, .int v5), (6, .int v6)]) [0, 1, 2, 3, 4, 5, 6] rfl ?_
    exact hx0 _ (Option.some.inj h).symm
  · replace h := iteF h hc
    refine zz_iload C 6 ddM_feed_13 rfl ?_
    refine zz_iload_n C 1 ddM_feed_15 rfl rfl ?_
    refine zz_iload_n C 2 ddM_feed_16 rfl rfl ?_
    refine zz_iload_n C 3 ddM_feed_17 rfl rfl ?_
    refine zz_iload C 4 ddM_feed_18 rfl ?_
    refine zz_iload C 5 ddM_feed_20 rfl ?_
    refine zz_iload C 7 ddM_feed_22 rfl ?_
    obtain ⟨q1, hq1, h⟩ := bindN h
    refine zz_callS0 (As := [.int v1, .int v2, .int v3, .int v4, .int v5, .int v7]) C ddM_feed_24 wd_1282 my_M_byteOf mv_M_byteOf (xM_byteOf hG (d - 1) (by omega) hq1) (by omega) rfl rfl (Nat.le_of_ble_eq_true rfl) ?_
    refine zz_if_eq (tgt := 34) C ddM_feed_27 rfl (fun hc => ?_) (fun hc => ?_)
    · replace h := iteT h hc
      refine zz_iconst (v := 0) C ddM_feed_34 (by decide) ?_
      refine zz_loc (L1 := [(0, .ref v0), (1, .int v1), (2, .int v2), (3, .int v3), (4, .int v4), (5, .int v5), (7, .int v7)]) [0, 1, 2, 3, 4, 5, 7] rfl ?_
      exact zBM_feed_35 hG C N hD hd hK hx0 h
    · replace h := iteF h hc
      refine zz_iconst (v := 1) C ddM_feed_30 (by decide) ?_
      refine zz_goto (tgt := 35) C ddM_feed_31 rfl ?_
      refine zz_loc (L1 := [(0, .ref v0), (1, .int v1), (2, .int v2), (3, .int v3), (4, .int v4), (5, .int v5), (7, .int v7)]) [0, 1, 2, 3, 4, 5, 7] rfl ?_
      exact zBM_feed_35 hG C N hD hd hK hx0 h
set_option maxHeartbeats 2000000 in
theorem zLM_feed_6 {G : GXM} {X : CxM} (hG : GokM G) (C : CoM G X cM_feed "HomeFreedModel") (N : mLM X = 9) {d : Nat} (hD : dpM X = d) (hd : 1 ≤ d) {v0 : Nat} {v1 : Int32} {v2 : Int32} {v3 : Int32} {v4 : Int32} {v5 : Int32} {q : (Int32 × Mem)} : ∀ (f : Nat) (v6 : Int32) (v7 : Int32) (M : Mem), LM_feed_6 f v0 v1 v2 v3 v4 v5 v6 v7 M = some q → (hx0 : ∀ y : Int32 × Mem, q = y → ZM G X 44 [(0, .ref v0), (1, .int v1), (2, .int v2), (3, .int v3), (4, .int v4), (5, .int v5), (6, .int y.1)] [] y.2 0 0) → ZM G X 6 [(0, .ref v0), (1, .int v1), (2, .int v2), (3, .int v3), (4, .int v4), (5, .int v5), (6, .int v6), (7, .int v7)] [] M 0 0 := by
  intro f
  induction f with
  | zero => intro v6 v7 M h; cases h
  | succ f ih =>
    intro v6 v7 M h hx0
    exact zBM_feed_6 hG C N hD hd (K := LM_feed_6 f) (q := q) (fun v6 v7 M h => ih v6 v7 M h hx0) hx0 h
set_option maxHeartbeats 2000000 in
theorem xM_feed {G : GXM} {l : Launch} (hG : GokM G) (d : Nat) (hd : 1 ≤ d) {v0 : Nat} {v1 : Int32} {v2 : Int32} {v3 : Int32} {v4 : Int32} {v5 : Int32} {M : Mem} {q : Int32 × Mem} (h : fM_feed v0 v1 v2 v3 v4 v5 M = some q) : ExM G l d 0 0 yM_feed cM_feed 9 (some .int) [.ref v0, .int v1, .int v2, .int v3, .int v4, .int v5] M (some (.int q.1)) q.2 := by
  refine ex_of hG (by decide +kernel) (Nat.le_of_ble_eq_true rfl) ?_
  intro X hl C E N hD hn
  show ZM G X 0 [(0, .ref v0), (1, .int v1), (2, .int v2), (3, .int v3), (4, .int v4), (5, .int v5)] [] M 0 0
  unfold fM_feed at h
  refine zz_iconst (v := 0) C ddM_feed_0 (by decide) ?_
  refine zz_istore (L1 := [(6, .int 0), (0, .ref v0), (1, .int v1), (2, .int v2), (3, .int v3), (4, .int v4), (5, .int v5)]) C ddM_feed_1 N (by decide) rfl ?_
  refine zz_iconst (v := 0) C ddM_feed_3 (by decide) ?_
  refine zz_istore (L1 := [(7, .int 0), (6, .int 0), (0, .ref v0), (1, .int v1), (2, .int v2), (3, .int v3), (4, .int v4), (5, .int v5)]) C ddM_feed_4 N (by decide) rfl ?_
  refine zz_loc (L1 := [(0, .ref v0), (1, .int v1), (2, .int v2), (3, .int v3), (4, .int v4), (5, .int v5), (6, .int 0), (7, .int 0)]) [2, 3, 4, 5, 6, 7, 1, 0] rfl ?_
  obtain ⟨q1, hq1, h⟩ := bindN h
  refine zLM_feed_6 hG C N hD hd 1000000 _ _ _ hq1 ?_
  · intro y2 eq1; replace eq1 := eq1.symm; subst eq1
    refine zz_aload_n C 0 ddM_feed_44 rfl rfl ?_
    obtain ⟨h3, h⟩ := gdN h
    refine zz_geti C ddM_feed_45 fl_M_72 rfl h3 ?_
    refine zz_iload C 6 ddM_feed_48 rfl ?_
    refine zz_iadd C ddM_feed_50 ?_
    refine zz_sipush (v := 240) C ddM_feed_51 (by decide) ?_
    refine zz_icmp_le (tgt := 59) C ddM_feed_54 rfl (fun hc => ?_) (fun hc => ?_)
    · replace h := iteT h hc
      refine zz_iconst (v := 0) C ddM_feed_59 (by decide) ?_
      refine zz_istore (L1 := [(7, .int 0), (0, .ref v0), (1, .int v1), (2, .int v2), (3, .int v3), (4, .int v4), (5, .int v5), (6, .int y2.1)]) C ddM_feed_60 N (by decide) rfl ?_
      refine zz_loc (L1 := [(0, .ref v0), (1, .int v1), (2, .int v2), (3, .int v3), (4, .int v4), (5, .int v5), (7, .int 0)]) [1, 2, 3, 4, 5, 6, 0] rfl ?_
      obtain ⟨q4, hq4, h⟩ := bindN h
      refine zLM_feed_62 hG C N hD hd 1000000 _ _ hq4 ?_
      · intro r5 eq4; replace eq4 := eq4.symm; subst eq4
        obtain rfl := Option.some.inj h
        exact E
    · replace h := iteF h hc
      refine zz_iconst (v := (-1)) C ddM_feed_57 (by decide) ?_
      obtain rfl := Option.some.inj h
      exact zz_iret C E ddM_feed_58
theorem ddM_in_0 : decode cM_in 0 = .ok (.iload_n 0, 1) := by decide +kernel
theorem ddM_in_1 : decode cM_in 1 = .ok (.iload_n 1, 1) := by decide +kernel
theorem ddM_in_2 : decode cM_in 2 = .ok (.if_icmp .lt 12, 3) := by decide +kernel
theorem ddM_in_5 : decode cM_in 5 = .ok (.iload_n 0, 1) := by decide +kernel
theorem ddM_in_6 : decode cM_in 6 = .ok (.iload_n 2, 1) := by decide +kernel
theorem ddM_in_7 : decode cM_in 7 = .ok (.if_icmp .gt 7, 3) := by decide +kernel
theorem ddM_in_10 : decode cM_in 10 = .ok (.iconst 1, 1) := by decide +kernel
theorem ddM_in_11 : decode cM_in 11 = .ok (.goto 4, 3) := by decide +kernel
theorem ddM_in_14 : decode cM_in 14 = .ok (.iconst 0, 1) := by decide +kernel
theorem ddM_in_15 : decode cM_in 15 = .ok (.ireturn, 1) := by decide +kernel
set_option maxHeartbeats 2000000 in
theorem zBM_in_15 {G : GXM} {X : CxM} (hG : GokM G) (C : CoM G X cM_in "HomeFreedModel") (N : mLM X = 3) {d : Nat} (hD : dpM X = d) (hd : 0 ≤ d)  {q : Int32 × Mem} (E : EnM G X (some .boolean) (some (.int q.1)) q.2 0 0) {w0 : Int32} {M : Mem} (h : BM_in_15 w0 M = some q) : ZM G X 15 [] [.int w0] M 0 0 := by
  unfold BM_in_15 at h
  obtain ⟨h1, h⟩ := gdN h
  obtain rfl := Option.some.inj h
  exact zz_zret C (of_decide_eq_true h1) E ddM_in_15
set_option maxHeartbeats 2000000 in
theorem zBM_in_14 {G : GXM} {X : CxM} (hG : GokM G) (C : CoM G X cM_in "HomeFreedModel") (N : mLM X = 3) {d : Nat} (hD : dpM X = d) (hd : 0 ≤ d)  {q : Int32 × Mem} (E : EnM G X (some .boolean) (some (.int q.1)) q.2 0 0) {M : Mem} (h : BM_in_14 M = some q) : ZM G X 14 [] [] M 0 0 := by
  unfold BM_in_14 at h
  refine zz_iconst (v := 0) C ddM_in_14 (by decide) ?_
  exact zBM_in_15 hG C N hD hd E h
set_option maxHeartbeats 2000000 in
theorem xM_in {G : GXM} {l : Launch} (hG : GokM G) (d : Nat) (hd : 0 ≤ d) {v0 : Int32} {v1 : Int32} {v2 : Int32} {M : Mem} {q : Int32 × Mem} (h : fM_in v0 v1 v2 M = some q) : ExM G l d 0 0 yM_in cM_in 3 (some .boolean) [.int v0, .int v1, .int v2] M (some (.int q.1)) q.2 := by
  refine ex_of hG (by decide +kernel) (Nat.le_of_ble_eq_true rfl) ?_
  intro X hl C E N hD hn
  show ZM G X 0 [(0, .int v0), (1, .int v1), (2, .int v2)] [] M 0 0
  unfold fM_in at h
  refine zz_iload_n C 0 ddM_in_0 rfl rfl ?_
  refine zz_iload_n C 1 ddM_in_1 rfl rfl ?_
  refine zz_icmp_lt (tgt := 14) C ddM_in_2 rfl (fun hc => ?_) (fun hc => ?_)
  · replace h := iteT h hc
    refine zz_loc (L1 := []) [] rfl ?_
    exact zBM_in_14 hG C N hD hd E h
  · replace h := iteF h hc
    refine zz_iload_n C 0 ddM_in_5 rfl rfl ?_
    refine zz_iload_n C 2 ddM_in_6 rfl rfl ?_
    refine zz_icmp_gt (tgt := 14) C ddM_in_7 rfl (fun hc => ?_) (fun hc => ?_)
    · replace h := iteT h hc
      refine zz_loc (L1 := []) [] rfl ?_
      exact zBM_in_14 hG C N hD hd E h
    · replace h := iteF h hc
      refine zz_iconst (v := 1) C ddM_in_10 (by decide) ?_
      refine zz_goto (tgt := 15) C ddM_in_11 rfl ?_
      refine zz_loc (L1 := []) [] rfl ?_
      exact zBM_in_15 hG C N hD hd E h
theorem ddM_end_0 : decode cM_end 0 = .ok (.iload_n 1, 1) := by decide +kernel
theorem ddM_end_1 : decode cM_end 1 = .ok (.iconst 0, 1) := by decide +kernel
theorem ddM_end_2 : decode cM_end 2 = .ok (.aload_n 0, 1) := by decide +kernel
theorem ddM_end_3 : decode cM_end 3 = .ok (.getfield 72, 3) := by decide +kernel
theorem ddM_end_6 : decode cM_end 6 = .ok (.invokestatic 75, 3) := by decide +kernel
theorem ddM_end_9 : decode cM_end 9 = .ok (.ifCond .ne 5, 3) := by decide +kernel
theorem ddM_end_12 : decode cM_end 12 = .ok (.iconst 0, 1) := by decide +kernel
theorem ddM_end_13 : decode cM_end 13 = .ok (.ireturn, 1) := by decide +kernel
theorem ddM_end_14 : decode cM_end 14 = .ok (.aload_n 0, 1) := by decide +kernel
theorem ddM_end_15 : decode cM_end 15 = .ok (.iload_n 1, 1) := by decide +kernel
theorem ddM_end_16 : decode cM_end 16 = .ok (.putfield 72, 3) := by decide +kernel
theorem ddM_end_19 : decode cM_end 19 = .ok (.iconst 1, 1) := by decide +kernel
theorem ddM_end_20 : decode cM_end 20 = .ok (.ireturn, 1) := by decide +kernel
set_option maxHeartbeats 2000000 in
theorem xM_end {G : GXM} {l : Launch} (hG : GokM G) (d : Nat) (hd : 1 ≤ d) {v0 : Nat} {v1 : Int32} {M : Mem} {q : Int32 × Mem} (h : fM_end v0 v1 M = some q) : ExM G l d 0 0 yM_end cM_end 2 (some .boolean) [.ref v0, .int v1] M (some (.int q.1)) q.2 := by
  refine ex_of hG (by decide +kernel) (Nat.le_of_ble_eq_true rfl) ?_
  intro X hl C E N hD hn
  show ZM G X 0 [(0, .ref v0), (1, .int v1)] [] M 0 0
  unfold fM_end at h
  refine zz_iload_n C 1 ddM_end_0 rfl rfl ?_
  refine zz_iconst (v := 0) C ddM_end_1 (by decide) ?_
  refine zz_aload_n C 0 ddM_end_2 rfl rfl ?_
  obtain ⟨h1, h⟩ := gdN h
  refine zz_geti C ddM_end_3 fl_M_72 rfl h1 ?_
  obtain ⟨q2, hq2, h⟩ := bindN h
  refine zz_callS0 (As := [.int v1, .int 0, .int (giM M v0 2)]) C ddM_end_6 wd_1289 my_M_in mv_M_in (xM_in hG (d - 1) (by omega) hq2) (by omega) rfl rfl (Nat.le_of_ble_eq_true rfl) ?_
  refine zz_if_ne (tgt := 14) C ddM_end_9 rfl (fun hc => ?_) (fun hc => ?_)
  · replace h := iteF h hc
    refine zz_aload_n C 0 ddM_end_14 rfl rfl ?_
    refine zz_iload_n C 1 ddM_end_15 rfl rfl ?_
    obtain ⟨h3, h⟩ := gdN h
    refine zz_puti C ddM_end_16 fl_M_72 rfl rfl rfl h3 ?_
    refine zz_iconst (v := 1) C ddM_end_19 (by decide) ?_
    obtain rfl := Option.some.inj h
    exact zz_zret C (by decide) E ddM_end_20
  · replace h := iteT h hc
    refine zz_iconst (v := 0) C ddM_end_12 (by decide) ?_
    obtain rfl := Option.some.inj h
    exact zz_zret C (by decide) E ddM_end_13
theorem ddM_usual_0 : decode cM_usual 0 = .ok (.iload_n 0, 1) := by decide +kernel
theorem ddM_usual_1 : decode cM_usual 1 = .ok (.bipush 99, 2) := by decide +kernel
theorem ddM_usual_3 : decode cM_usual 3 = .ok (.if_icmp .ne 5, 3) := by decide +kernel
theorem ddM_usual_6 : decode cM_usual 6 = .ok (.iconst 1, 1) := by decide +kernel
theorem ddM_usual_7 : decode cM_usual 7 = .ok (.ireturn, 1) := by decide +kernel
theorem ddM_usual_8 : decode cM_usual 8 = .ok (.iload_n 1, 1) := by decide +kernel
theorem ddM_usual_9 : decode cM_usual 9 = .ok (.ifCond .ne 7, 3) := by decide +kernel
theorem ddM_usual_12 : decode cM_usual 12 = .ok (.iconst 2, 1) := by decide +kernel
theorem ddM_usual_13 : decode cM_usual 13 = .ok (.goto 34, 3) := by decide +kernel
theorem ddM_usual_16 : decode cM_usual 16 = .ok (.iload_n 1, 1) := by decide +kernel
theorem ddM_usual_17 : decode cM_usual 17 = .ok (.iconst 1, 1) := by decide +kernel
theorem ddM_usual_18 : decode cM_usual 18 = .ok (.if_icmp .ne 8, 3) := by decide +kernel
theorem ddM_usual_21 : decode cM_usual 21 = .ok (.bipush 6, 2) := by decide +kernel
theorem ddM_usual_23 : decode cM_usual 23 = .ok (.goto 24, 3) := by decide +kernel
theorem ddM_usual_26 : decode cM_usual 26 = .ok (.iload_n 1, 1) := by decide +kernel
theorem ddM_usual_27 : decode cM_usual 27 = .ok (.iconst 2, 1) := by decide +kernel
theorem ddM_usual_28 : decode cM_usual 28 = .ok (.if_icmp .ne 8, 3) := by decide +kernel
theorem ddM_usual_31 : decode cM_usual 31 = .ok (.bipush 16, 2) := by decide +kernel
theorem ddM_usual_33 : decode cM_usual 33 = .ok (.goto 14, 3) := by decide +kernel
theorem ddM_usual_36 : decode cM_usual 36 = .ok (.iload_n 1, 1) := by decide +kernel
theorem ddM_usual_37 : decode cM_usual 37 = .ok (.iconst 3, 1) := by decide +kernel
theorem ddM_usual_38 : decode cM_usual 38 = .ok (.if_icmp .ne 7, 3) := by decide +kernel
theorem ddM_usual_41 : decode cM_usual 41 = .ok (.iconst 3, 1) := by decide +kernel
theorem ddM_usual_42 : decode cM_usual 42 = .ok (.goto 5, 3) := by decide +kernel
theorem ddM_usual_45 : decode cM_usual 45 = .ok (.bipush 8, 2) := by decide +kernel
theorem ddM_usual_47 : decode cM_usual 47 = .ok (.ireturn, 1) := by decide +kernel
set_option maxHeartbeats 2000000 in
theorem zBM_usual_47 {G : GXM} {X : CxM} (hG : GokM G) (C : CoM G X cM_usual "HomeFreedModel") (N : mLM X = 2) {d : Nat} (hD : dpM X = d) (hd : 0 ≤ d)  {q : Int32 × Mem} (E : EnM G X (some .int) (some (.int q.1)) q.2 0 0) {w0 : Int32} {M : Mem} (h : BM_usual_47 w0 M = some q) : ZM G X 47 [] [.int w0] M 0 0 := by
  unfold BM_usual_47 at h
  obtain rfl := Option.some.inj h
  exact zz_iret C E ddM_usual_47
set_option maxHeartbeats 2000000 in
theorem xM_usual {G : GXM} {l : Launch} (hG : GokM G) (d : Nat) (hd : 0 ≤ d) {v0 : Int32} {v1 : Int32} {M : Mem} {q : Int32 × Mem} (h : fM_usual v0 v1 M = some q) : ExM G l d 0 0 yM_usual cM_usual 2 (some .int) [.int v0, .int v1] M (some (.int q.1)) q.2 := by
  refine ex_of hG (by decide +kernel) (Nat.le_of_ble_eq_true rfl) ?_
  intro X hl C E N hD hn
  show ZM G X 0 [(0, .int v0), (1, .int v1)] [] M 0 0
  unfold fM_usual at h
  refine zz_iload_n C 0 ddM_usual_0 rfl rfl ?_
  refine zz_bipush (v := 99) C ddM_usual_1 (by decide) ?_
  refine zz_icmp_ne (tgt := 8) C ddM_usual_3 rfl (fun hc => ?_) (fun hc => ?_)
  · replace h := iteF h hc
    refine zz_iload_n C 1 ddM_usual_8 rfl rfl ?_
    refine zz_if_ne (tgt := 16) C ddM_usual_9 rfl (fun hc => ?_) (fun hc => ?_)
    · replace h := iteF h hc
      refine zz_iload_n C 1 ddM_usual_16 rfl rfl ?_
      refine zz_iconst (v := 1) C ddM_usual_17 (by decide) ?_
      refine zz_icmp_ne (tgt := 26) C ddM_usual_18 rfl (fun hc => ?_) (fun hc => ?_)
      · replace h := iteF h hc
        refine zz_iload_n C 1 ddM_usual_26 rfl rfl ?_
        refine zz_iconst (v := 2) C ddM_usual_27 (by decide) ?_
        refine zz_icmp_ne (tgt := 36) C ddM_usual_28 rfl (fun hc => ?_) (fun hc => ?_)
        · replace h := iteF h hc
          refine zz_iload_n C 1 ddM_usual_36 rfl rfl ?_
          refine zz_iconst (v := 3) C ddM_usual_37 (by decide) ?_
          refine zz_icmp_ne (tgt := 45) C ddM_usual_38 rfl (fun hc => ?_) (fun hc => ?_)
          · replace h := iteF h hc
            refine zz_bipush (v := 8) C ddM_usual_45 (by decide) ?_
            refine zz_loc (L1 := []) [] rfl ?_
            exact zBM_usual_47 hG C N hD hd E h
          · replace h := iteT h hc
            refine zz_iconst (v := 3) C ddM_usual_41 (by decide) ?_
            refine zz_goto (tgt := 47) C ddM_usual_42 rfl ?_
            refine zz_loc (L1 := []) [] rfl ?_
            exact zBM_usual_47 hG C N hD hd E h
        · replace h := iteT h hc
          refine zz_bipush (v := 16) C ddM_usual_31 (by decide) ?_
          refine zz_goto (tgt := 47) C ddM_usual_33 rfl ?_
          refine zz_loc (L1 := []) [] rfl ?_
          exact zBM_usual_47 hG C N hD hd E h
      · replace h := iteT h hc
        refine zz_bipush (v := 6) C ddM_usual_21 (by decide) ?_
        refine zz_goto (tgt := 47) C ddM_usual_23 rfl ?_
        refine zz_loc (L1 := []) [] rfl ?_
        exact zBM_usual_47 hG C N hD hd E h
    · replace h := iteT h hc
      refine zz_iconst (v := 2) C ddM_usual_12 (by decide) ?_
      refine zz_goto (tgt := 47) C ddM_usual_13 rfl ?_
      refine zz_loc (L1 := []) [] rfl ?_
      exact zBM_usual_47 hG C N hD hd E h
  · replace h := iteT h hc
    refine zz_iconst (v := 1) C ddM_usual_6 (by decide) ?_
    obtain rfl := Option.some.inj h
    exact zz_iret C E ddM_usual_7
theorem ddM_here_0 : decode cM_here 0 = .ok (.aload_n 0, 1) := by decide +kernel
theorem ddM_here_1 : decode cM_here 1 = .ok (.getfield 79, 3) := by decide +kernel
theorem ddM_here_4 : decode cM_here 4 = .ok (.aload_n 0, 1) := by decide +kernel
theorem ddM_here_5 : decode cM_here 5 = .ok (.getfield 72, 3) := by decide +kernel
theorem ddM_here_8 : decode cM_here 8 = .ok (.if_icmp .ge 15, 3) := by decide +kernel
theorem ddM_here_11 : decode cM_here 11 = .ok (.aload_n 0, 1) := by decide +kernel
theorem ddM_here_12 : decode cM_here 12 = .ok (.getfield 9, 3) := by decide +kernel
theorem ddM_here_15 : decode cM_here 15 = .ok (.aload_n 0, 1) := by decide +kernel
theorem ddM_here_16 : decode cM_here 16 = .ok (.getfield 79, 3) := by decide +kernel
theorem ddM_here_19 : decode cM_here 19 = .ok (.iaload, 1) := by decide +kernel
theorem ddM_here_20 : decode cM_here 20 = .ok (.goto 4, 3) := by decide +kernel
theorem ddM_here_23 : decode cM_here 23 = .ok (.iconst (-1), 1) := by decide +kernel
theorem ddM_here_24 : decode cM_here 24 = .ok (.ireturn, 1) := by decide +kernel
set_option maxHeartbeats 2000000 in
theorem zBM_here_24 {G : GXM} {X : CxM} (hG : GokM G) (C : CoM G X cM_here "HomeFreedModel") (N : mLM X = 1) {d : Nat} (hD : dpM X = d) (hd : 0 ≤ d)  {q : Int32 × Mem} (E : EnM G X (some .int) (some (.int q.1)) q.2 0 0) {w0 : Int32} {M : Mem} (h : BM_here_24 w0 M = some q) : ZM G X 24 [] [.int w0] M 0 0 := by
  unfold BM_here_24 at h
  obtain rfl := Option.some.inj h
  exact zz_iret C E ddM_here_24
set_option maxHeartbeats 2000000 in
theorem xM_here {G : GXM} {l : Launch} (hG : GokM G) (d : Nat) (hd : 0 ≤ d) {v0 : Nat} {M : Mem} {q : Int32 × Mem} (h : fM_here v0 M = some q) : ExM G l d 0 0 yM_here cM_here 1 (some .int) [.ref v0] M (some (.int q.1)) q.2 := by
  refine ex_of hG (by decide +kernel) (Nat.le_of_ble_eq_true rfl) ?_
  intro X hl C E N hD hn
  show ZM G X 0 [(0, .ref v0)] [] M 0 0
  unfold fM_here at h
  refine zz_aload_n C 0 ddM_here_0 rfl rfl ?_
  obtain ⟨h1, h⟩ := gdN h
  refine zz_geti C ddM_here_1 fl_M_79 rfl h1 ?_
  refine zz_aload_n C 0 ddM_here_4 rfl rfl ?_
  refine zz_geti C ddM_here_5 fl_M_72 rfl h1 ?_
  refine zz_icmp_ge (tgt := 23) C ddM_here_8 rfl (fun hc => ?_) (fun hc => ?_)
  · replace h := iteT h hc
    refine zz_iconst (v := (-1)) C ddM_here_23 (by decide) ?_
    refine zz_loc (L1 := []) [] rfl ?_
    exact zBM_here_24 hG C N hD hd E h
  · replace h := iteF h hc
    refine zz_aload_n C 0 ddM_here_11 rfl rfl ?_
    obtain ⟨h2, h⟩ := gdN h
    refine zz_getr C ddM_here_12 fl_M_9 rfl h1 (of_decide_eq_true h2) ?_
    refine zz_aload_n C 0 ddM_here_15 rfl rfl ?_
    refine zz_geti C ddM_here_16 fl_M_79 rfl h1 ?_
    obtain ⟨h3, h⟩ := gdN h
    refine zz_iaload C ddM_here_19 h3 ?_
    refine zz_goto (tgt := 24) C ddM_here_20 rfl ?_
    refine zz_loc (L1 := []) [] rfl ?_
    exact zBM_here_24 hG C N hD hd E h
theorem ddM_ahead_0 : decode cM_ahead 0 = .ok (.aload_n 0, 1) := by decide +kernel
theorem ddM_ahead_1 : decode cM_ahead 1 = .ok (.invokevirtual 82, 3) := by decide +kernel
theorem ddM_ahead_4 : decode cM_ahead 4 = .ok (.bipush 32, 2) := by decide +kernel
theorem ddM_ahead_6 : decode cM_ahead 6 = .ok (.if_icmp .ne 16, 3) := by decide +kernel
theorem ddM_ahead_9 : decode cM_ahead 9 = .ok (.aload_n 0, 1) := by decide +kernel
theorem ddM_ahead_10 : decode cM_ahead 10 = .ok (.dup, 1) := by decide +kernel
theorem ddM_ahead_11 : decode cM_ahead 11 = .ok (.getfield 79, 3) := by decide +kernel
theorem ddM_ahead_14 : decode cM_ahead 14 = .ok (.iconst 1, 1) := by decide +kernel
theorem ddM_ahead_15 : decode cM_ahead 15 = .ok (.iadd, 1) := by decide +kernel
theorem ddM_ahead_16 : decode cM_ahead 16 = .ok (.putfield 79, 3) := by decide +kernel
theorem ddM_ahead_19 : decode cM_ahead 19 = .ok (.goto (-19), 3) := by decide +kernel
theorem ddM_ahead_22 : decode cM_ahead 22 = .ok (.aload_n 0, 1) := by decide +kernel
theorem ddM_ahead_23 : decode cM_ahead 23 = .ok (.invokevirtual 82, 3) := by decide +kernel
theorem ddM_ahead_26 : decode cM_ahead 26 = .ok (.ireturn, 1) := by decide +kernel
set_option maxHeartbeats 2000000 in
theorem zBM_ahead_0 {G : GXM} {X : CxM} (hG : GokM G) (C : CoM G X cM_ahead "HomeFreedModel") (N : mLM X = 1) {d : Nat} (hD : dpM X = d) (hd : 1 ≤ d) {v0 : Nat} {K : Nat → Mem → Option ((Int32 × Mem))} {q : (Int32 × Mem)} (hK : ∀  (M : Mem), K v0 M = some q → ZM G X 0 [(0, .ref v0)] [] M 0 0) (hr : ∀ r : Int32 × Mem, q =  r → EnM G X (some .int) (some (.int r.1)) r.2 0 0) {M : Mem} (h : BM_ahead_0 K v0 M = some q) : ZM G X 0 [(0, .ref v0)] [] M 0 0 := by
  unfold BM_ahead_0 at h
  refine zz_aload_n C 0 ddM_ahead_0 rfl rfl ?_
  obtain ⟨h2, h⟩ := gdN h
  obtain ⟨q1, hq1, h⟩ := bindN h
  refine zz_callV0 (As := []) C ddM_ahead_1 wd_1307 my_M_here mv_M_here ⟨_, rfl, rfl⟩ (xM_here hG (d - 1) (by omega) hq1) (by omega) h2 rfl rfl (Nat.le_of_ble_eq_true rfl) ?_
  refine zz_bipush (v := 32) C ddM_ahead_4 (by decide) ?_
  refine zz_icmp_ne (tgt := 22) C ddM_ahead_6 rfl (fun hc => ?_) (fun hc => ?_)
  · replace h := iteF h hc
    refine zz_aload_n C 0 ddM_ahead_22 rfl rfl ?_
    obtain ⟨h4, h⟩ := gdN h
    obtain ⟨q3, hq3, h⟩ := bindN h
    refine zz_callV0 (As := []) C ddM_ahead_23 wd_1307 my_M_here mv_M_here ⟨_, rfl, rfl⟩ (xM_here hG (d - 1) (by omega) hq3) (by omega) h4 rfl rfl (Nat.le_of_ble_eq_true rfl) ?_
    exact zz_iret C (hr _ (Option.some.inj h).symm) ddM_ahead_26
  · replace h := iteT h hc
    refine zz_aload_n C 0 ddM_ahead_9 rfl rfl ?_
    refine zz_dup C ddM_ahead_10 rfl ?_
    obtain ⟨h5, h⟩ := gdN h
    refine zz_geti C ddM_ahead_11 fl_M_79 rfl h5 ?_
    refine zz_iconst (v := 1) C ddM_ahead_14 (by decide) ?_
    refine zz_iadd C ddM_ahead_15 ?_
    refine zz_puti C ddM_ahead_16 fl_M_79 rfl rfl rfl h5 ?_
    refine zz_goto (tgt := 0) C ddM_ahead_19 rfl ?_
    exact hK  _ h
set_option maxHeartbeats 2000000 in
theorem zLM_ahead_0 {G : GXM} {X : CxM} (hG : GokM G) (C : CoM G X cM_ahead "HomeFreedModel") (N : mLM X = 1) {d : Nat} (hD : dpM X = d) (hd : 1 ≤ d) {v0 : Nat} {q : (Int32 × Mem)} : ∀ (f : Nat)  (M : Mem), LM_ahead_0 f v0 M = some q → (hr : ∀ r : Int32 × Mem, q =  r → EnM G X (some .int) (some (.int r.1)) r.2 0 0) → ZM G X 0 [(0, .ref v0)] [] M 0 0 := by
  intro f
  induction f with
  | zero => intro  M h; cases h
  | succ f ih =>
    intro  M h hr
    exact zBM_ahead_0 hG C N hD hd (K := LM_ahead_0 f) (q := q) (fun  M h => ih  M h hr) hr h
set_option maxHeartbeats 2000000 in
theorem xM_ahead {G : GXM} {l : Launch} (hG : GokM G) (d : Nat) (hd : 1 ≤ d) {v0 : Nat} {M : Mem} {q : Int32 × Mem} (h : fM_ahead v0 M = some q) : ExM G l d 0 0 yM_ahead cM_ahead 1 (some .int) [.ref v0] M (some (.int q.1)) q.2 := by
  refine ex_of hG (by decide +kernel) (Nat.le_of_ble_eq_true rfl) ?_
  intro X hl C E N hD hn
  show ZM G X 0 [(0, .ref v0)] [] M 0 0
  unfold fM_ahead at h
  obtain ⟨q1, hq1, h⟩ := bindN h
  refine zLM_ahead_0 hG C N hD hd 1000000  _ hq1 ?_
  · intro r2 eq1; replace eq1 := eq1.symm; subst eq1
    obtain rfl := Option.some.inj h
    exact E
theorem ddM_itemOf_0 : decode cM_itemOf 0 = .ok (.iload_n 0, 1) := by decide +kernel
theorem ddM_itemOf_1 : decode cM_itemOf 1 = .ok (.bipush 99, 2) := by decide +kernel
theorem ddM_itemOf_3 : decode cM_itemOf 3 = .ok (.if_icmp .ne 15, 3) := by decide +kernel
theorem ddM_itemOf_6 : decode cM_itemOf 6 = .ok (.iload_n 1, 1) := by decide +kernel
theorem ddM_itemOf_7 : decode cM_itemOf 7 = .ok (.bipush 122, 2) := by decide +kernel
theorem ddM_itemOf_9 : decode cM_itemOf 9 = .ok (.if_icmp .ne 7, 3) := by decide +kernel
theorem ddM_itemOf_12 : decode cM_itemOf 12 = .ok (.iconst 0, 1) := by decide +kernel
theorem ddM_itemOf_13 : decode cM_itemOf 13 = .ok (.goto 4, 3) := by decide +kernel
theorem ddM_itemOf_16 : decode cM_itemOf 16 = .ok (.iconst (-1), 1) := by decide +kernel
theorem ddM_itemOf_17 : decode cM_itemOf 17 = .ok (.ireturn, 1) := by decide +kernel
theorem ddM_itemOf_18 : decode cM_itemOf 18 = .ok (.iload_n 1, 1) := by decide +kernel
theorem ddM_itemOf_19 : decode cM_itemOf 19 = .ok (.bipush 116, 2) := by decide +kernel
theorem ddM_itemOf_21 : decode cM_itemOf 21 = .ok (.if_icmp .ne 7, 3) := by decide +kernel
theorem ddM_itemOf_24 : decode cM_itemOf 24 = .ok (.iconst 0, 1) := by decide +kernel
theorem ddM_itemOf_25 : decode cM_itemOf 25 = .ok (.goto 44, 3) := by decide +kernel
theorem ddM_itemOf_28 : decode cM_itemOf 28 = .ok (.iload_n 1, 1) := by decide +kernel
theorem ddM_itemOf_29 : decode cM_itemOf 29 = .ok (.bipush 112, 2) := by decide +kernel
theorem ddM_itemOf_31 : decode cM_itemOf 31 = .ok (.if_icmp .ne 7, 3) := by decide +kernel
theorem ddM_itemOf_34 : decode cM_itemOf 34 = .ok (.iconst 1, 1) := by decide +kernel
theorem ddM_itemOf_35 : decode cM_itemOf 35 = .ok (.goto 34, 3) := by decide +kernel
theorem ddM_itemOf_38 : decode cM_itemOf 38 = .ok (.iload_n 1, 1) := by decide +kernel
theorem ddM_itemOf_39 : decode cM_itemOf 39 = .ok (.bipush 117, 2) := by decide +kernel
theorem ddM_itemOf_41 : decode cM_itemOf 41 = .ok (.if_icmp .ne 7, 3) := by decide +kernel
theorem ddM_itemOf_44 : decode cM_itemOf 44 = .ok (.iconst 2, 1) := by decide +kernel
theorem ddM_itemOf_45 : decode cM_itemOf 45 = .ok (.goto 24, 3) := by decide +kernel
theorem ddM_itemOf_48 : decode cM_itemOf 48 = .ok (.iload_n 1, 1) := by decide +kernel
theorem ddM_itemOf_49 : decode cM_itemOf 49 = .ok (.bipush 98, 2) := by decide +kernel
theorem ddM_itemOf_51 : decode cM_itemOf 51 = .ok (.if_icmp .ne 7, 3) := by decide +kernel
theorem ddM_itemOf_54 : decode cM_itemOf 54 = .ok (.iconst 3, 1) := by decide +kernel
theorem ddM_itemOf_55 : decode cM_itemOf 55 = .ok (.goto 14, 3) := by decide +kernel
theorem ddM_itemOf_58 : decode cM_itemOf 58 = .ok (.iload_n 1, 1) := by decide +kernel
theorem ddM_itemOf_59 : decode cM_itemOf 59 = .ok (.bipush 104, 2) := by decide +kernel
theorem ddM_itemOf_61 : decode cM_itemOf 61 = .ok (.if_icmp .ne 7, 3) := by decide +kernel
theorem ddM_itemOf_64 : decode cM_itemOf 64 = .ok (.iconst 4, 1) := by decide +kernel
theorem ddM_itemOf_65 : decode cM_itemOf 65 = .ok (.goto 4, 3) := by decide +kernel
theorem ddM_itemOf_68 : decode cM_itemOf 68 = .ok (.iconst (-1), 1) := by decide +kernel
theorem ddM_itemOf_69 : decode cM_itemOf 69 = .ok (.ireturn, 1) := by decide +kernel
set_option maxHeartbeats 2000000 in
theorem zBM_itemOf_69 {G : GXM} {X : CxM} (hG : GokM G) (C : CoM G X cM_itemOf "HomeFreedModel") (N : mLM X = 2) {d : Nat} (hD : dpM X = d) (hd : 0 ≤ d)  {q : Int32 × Mem} (E : EnM G X (some .int) (some (.int q.1)) q.2 0 0) {w0 : Int32} {M : Mem} (h : BM_itemOf_69 w0 M = some q) : ZM G X 69 [] [.int w0] M 0 0 := by
  unfold BM_itemOf_69 at h
  obtain rfl := Option.some.inj h
  exact zz_iret C E ddM_itemOf_69
set_option maxHeartbeats 2000000 in
theorem zBM_itemOf_17 {G : GXM} {X : CxM} (hG : GokM G) (C : CoM G X cM_itemOf "HomeFreedModel") (N : mLM X = 2) {d : Nat} (hD : dpM X = d) (hd : 0 ≤ d)  {q : Int32 × Mem} (E : EnM G X (some .int) (some (.int q.1)) q.2 0 0) {w0 : Int32} {M : Mem} (h : BM_itemOf_17 w0 M = some q) : ZM G X 17 [] [.int w0] M 0 0 := by
  unfold BM_itemOf_17 at h
  obtain rfl := Option.some.inj h
  exact zz_iret C E ddM_itemOf_17
set_option maxHeartbeats 2000000 in
theorem xM_itemOf {G : GXM} {l : Launch} (hG : GokM G) (d : Nat) (hd : 0 ≤ d) {v0 : Int32} {v1 : Int32} {M : Mem} {q : Int32 × Mem} (h : fM_itemOf v0 v1 M = some q) : ExM G l d 0 0 yM_itemOf cM_itemOf 2 (some .int) [.int v0, .int v1] M (some (.int q.1)) q.2 := by
  refine ex_of hG (by decide +kernel) (Nat.le_of_ble_eq_true rfl) ?_
  intro X hl C E N hD hn
  show ZM G X 0 [(0, .int v0), (1, .int v1)] [] M 0 0
  unfold fM_itemOf at h
  refine zz_iload_n C 0 ddM_itemOf_0 rfl rfl ?_
  refine zz_bipush (v := 99) C ddM_itemOf_1 (by decide) ?_
  refine zz_icmp_ne (tgt := 18) C ddM_itemOf_3 rfl (fun hc => ?_) (fun hc => ?_)
  · replace h := iteF h hc
    refine zz_iload_n C 1 ddM_itemOf_18 rfl rfl ?_
    refine zz_bipush (v := 116) C ddM_itemOf_19 (by decide) ?_
    refine zz_icmp_ne (tgt := 28) C ddM_itemOf_21 rfl (fun hc => ?_) (fun hc => ?_)
    · replace h := iteF h hc
      refine zz_iload_n C 1 ddM_itemOf_28 rfl rfl ?_
      refine zz_bipush (v := 112) C ddM_itemOf_29 (by decide) ?_
      refine zz_icmp_ne (tgt := 38) C ddM_itemOf_31 rfl (fun hc => ?_) (fun hc => ?_)
      · replace h := iteF h hc
        refine zz_iload_n C 1 ddM_itemOf_38 rfl rfl ?_
        refine zz_bipush (v := 117) C ddM_itemOf_39 (by decide) ?_
        refine zz_icmp_ne (tgt := 48) C ddM_itemOf_41 rfl (fun hc => ?_) (fun hc => ?_)
        · replace h := iteF h hc
          refine zz_iload_n C 1 ddM_itemOf_48 rfl rfl ?_
          refine zz_bipush (v := 98) C ddM_itemOf_49 (by decide) ?_
          refine zz_icmp_ne (tgt := 58) C ddM_itemOf_51 rfl (fun hc => ?_) (fun hc => ?_)
          · replace h := iteF h hc
            refine zz_iload_n C 1 ddM_itemOf_58 rfl rfl ?_
            refine zz_bipush (v := 104) C ddM_itemOf_59 (by decide) ?_
            refine zz_icmp_ne (tgt := 68) C ddM_itemOf_61 rfl (fun hc => ?_) (fun hc => ?_)
            · replace h := iteF h hc
              refine zz_iconst (v := (-1)) C ddM_itemOf_68 (by decide) ?_
              refine zz_loc (L1 := []) [] rfl ?_
              exact zBM_itemOf_69 hG C N hD hd E h
            · replace h := iteT h hc
              refine zz_iconst (v := 4) C ddM_itemOf_64 (by decide) ?_
              refine zz_goto (tgt := 69) C ddM_itemOf_65 rfl ?_
              refine zz_loc (L1 := []) [] rfl ?_
              exact zBM_itemOf_69 hG C N hD hd E h
          · replace h := iteT h hc
            refine zz_iconst (v := 3) C ddM_itemOf_54 (by decide) ?_
            refine zz_goto (tgt := 69) C ddM_itemOf_55 rfl ?_
            refine zz_loc (L1 := []) [] rfl ?_
            exact zBM_itemOf_69 hG C N hD hd E h
        · replace h := iteT h hc
          refine zz_iconst (v := 2) C ddM_itemOf_44 (by decide) ?_
          refine zz_goto (tgt := 69) C ddM_itemOf_45 rfl ?_
          refine zz_loc (L1 := []) [] rfl ?_
          exact zBM_itemOf_69 hG C N hD hd E h
      · replace h := iteT h hc
        refine zz_iconst (v := 1) C ddM_itemOf_34 (by decide) ?_
        refine zz_goto (tgt := 69) C ddM_itemOf_35 rfl ?_
        refine zz_loc (L1 := []) [] rfl ?_
        exact zBM_itemOf_69 hG C N hD hd E h
    · replace h := iteT h hc
      refine zz_iconst (v := 0) C ddM_itemOf_24 (by decide) ?_
      refine zz_goto (tgt := 69) C ddM_itemOf_25 rfl ?_
      refine zz_loc (L1 := []) [] rfl ?_
      exact zBM_itemOf_69 hG C N hD hd E h
  · replace h := iteT h hc
    refine zz_iload_n C 1 ddM_itemOf_6 rfl rfl ?_
    refine zz_bipush (v := 122) C ddM_itemOf_7 (by decide) ?_
    refine zz_icmp_ne (tgt := 16) C ddM_itemOf_9 rfl (fun hc => ?_) (fun hc => ?_)
    · replace h := iteF h hc
      refine zz_iconst (v := (-1)) C ddM_itemOf_16 (by decide) ?_
      refine zz_loc (L1 := []) [] rfl ?_
      exact zBM_itemOf_17 hG C N hD hd E h
    · replace h := iteT h hc
      refine zz_iconst (v := 0) C ddM_itemOf_12 (by decide) ?_
      refine zz_goto (tgt := 17) C ddM_itemOf_13 rfl ?_
      refine zz_loc (L1 := []) [] rfl ?_
      exact zBM_itemOf_17 hG C N hD hd E h
theorem ddM_has_0 : decode cM_has 0 = .ok (.iload_n 0, 1) := by decide +kernel
theorem ddM_has_1 : decode cM_has 1 = .ok (.iload_n 1, 1) := by decide +kernel
theorem ddM_has_2 : decode cM_has 2 = .ok (.ishr, 1) := by decide +kernel
theorem ddM_has_3 : decode cM_has 3 = .ok (.iconst 1, 1) := by decide +kernel
theorem ddM_has_4 : decode cM_has 4 = .ok (.iand, 1) := by decide +kernel
theorem ddM_has_5 : decode cM_has 5 = .ok (.iconst 1, 1) := by decide +kernel
theorem ddM_has_6 : decode cM_has 6 = .ok (.if_icmp .ne 7, 3) := by decide +kernel
theorem ddM_has_9 : decode cM_has 9 = .ok (.iconst 1, 1) := by decide +kernel
theorem ddM_has_10 : decode cM_has 10 = .ok (.goto 4, 3) := by decide +kernel
theorem ddM_has_13 : decode cM_has 13 = .ok (.iconst 0, 1) := by decide +kernel
theorem ddM_has_14 : decode cM_has 14 = .ok (.ireturn, 1) := by decide +kernel
set_option maxHeartbeats 2000000 in
theorem zBM_has_14 {G : GXM} {X : CxM} (hG : GokM G) (C : CoM G X cM_has "HomeFreedModel") (N : mLM X = 2) {d : Nat} (hD : dpM X = d) (hd : 0 ≤ d)  {q : Int32 × Mem} (E : EnM G X (some .boolean) (some (.int q.1)) q.2 0 0) {w0 : Int32} {M : Mem} (h : BM_has_14 w0 M = some q) : ZM G X 14 [] [.int w0] M 0 0 := by
  unfold BM_has_14 at h
  obtain ⟨h1, h⟩ := gdN h
  obtain rfl := Option.some.inj h
  exact zz_zret C (of_decide_eq_true h1) E ddM_has_14
set_option maxHeartbeats 2000000 in
theorem xM_has {G : GXM} {l : Launch} (hG : GokM G) (d : Nat) (hd : 0 ≤ d) {v0 : Int32} {v1 : Int32} {M : Mem} {q : Int32 × Mem} (h : fM_has v0 v1 M = some q) : ExM G l d 0 0 yM_has cM_has 2 (some .boolean) [.int v0, .int v1] M (some (.int q.1)) q.2 := by
  refine ex_of hG (by decide +kernel) (Nat.le_of_ble_eq_true rfl) ?_
  intro X hl C E N hD hn
  show ZM G X 0 [(0, .int v0), (1, .int v1)] [] M 0 0
  unfold fM_has at h
  refine zz_iload_n C 0 ddM_has_0 rfl rfl ?_
  refine zz_iload_n C 1 ddM_has_1 rfl rfl ?_
  refine zz_ishr C ddM_has_2 ?_
  refine zz_iconst (v := 1) C ddM_has_3 (by decide) ?_
  refine zz_iand C ddM_has_4 ?_
  refine zz_iconst (v := 1) C ddM_has_5 (by decide) ?_
  refine zz_icmp_ne (tgt := 13) C ddM_has_6 rfl (fun hc => ?_) (fun hc => ?_)
  · replace h := iteF h hc
    refine zz_iconst (v := 0) C ddM_has_13 (by decide) ?_
    refine zz_loc (L1 := []) [] rfl ?_
    exact zBM_has_14 hG C N hD hd E h
  · replace h := iteT h hc
    refine zz_iconst (v := 1) C ddM_has_9 (by decide) ?_
    refine zz_goto (tgt := 14) C ddM_has_10 rfl ?_
    refine zz_loc (L1 := []) [] rfl ?_
    exact zBM_has_14 hG C N hD hd E h
theorem ddM_highest_0 : decode cM_highest 0 = .ok (.iload_n 0, 1) := by decide +kernel
theorem ddM_highest_1 : decode cM_highest 1 = .ok (.bipush 99, 2) := by decide +kernel
theorem ddM_highest_3 : decode cM_highest 3 = .ok (.if_icmp .ne 6, 3) := by decide +kernel
theorem ddM_highest_6 : decode cM_highest 6 = .ok (.bipush 40, 2) := by decide +kernel
theorem ddM_highest_8 : decode cM_highest 8 = .ok (.ireturn, 1) := by decide +kernel
theorem ddM_highest_9 : decode cM_highest 9 = .ok (.iload_n 1, 1) := by decide +kernel
theorem ddM_highest_10 : decode cM_highest 10 = .ok (.ifCond .ne 7, 3) := by decide +kernel
theorem ddM_highest_13 : decode cM_highest 13 = .ok (.iconst 4, 1) := by decide +kernel
theorem ddM_highest_14 : decode cM_highest 14 = .ok (.goto 35, 3) := by decide +kernel
theorem ddM_highest_17 : decode cM_highest 17 = .ok (.iload_n 1, 1) := by decide +kernel
theorem ddM_highest_18 : decode cM_highest 18 = .ok (.iconst 1, 1) := by decide +kernel
theorem ddM_highest_19 : decode cM_highest 19 = .ok (.if_icmp .ne 8, 3) := by decide +kernel
theorem ddM_highest_22 : decode cM_highest 22 = .ok (.bipush 16, 2) := by decide +kernel
theorem ddM_highest_24 : decode cM_highest 24 = .ok (.goto 25, 3) := by decide +kernel
theorem ddM_highest_27 : decode cM_highest 27 = .ok (.iload_n 1, 1) := by decide +kernel
theorem ddM_highest_28 : decode cM_highest 28 = .ok (.iconst 2, 1) := by decide +kernel
theorem ddM_highest_29 : decode cM_highest 29 = .ok (.if_icmp .ne 8, 3) := by decide +kernel
theorem ddM_highest_32 : decode cM_highest 32 = .ok (.bipush 40, 2) := by decide +kernel
theorem ddM_highest_34 : decode cM_highest 34 = .ok (.goto 15, 3) := by decide +kernel
theorem ddM_highest_37 : decode cM_highest 37 = .ok (.iload_n 1, 1) := by decide +kernel
theorem ddM_highest_38 : decode cM_highest 38 = .ok (.iconst 3, 1) := by decide +kernel
theorem ddM_highest_39 : decode cM_highest 39 = .ok (.if_icmp .ne 8, 3) := by decide +kernel
theorem ddM_highest_42 : decode cM_highest 42 = .ok (.bipush 9, 2) := by decide +kernel
theorem ddM_highest_44 : decode cM_highest 44 = .ok (.goto 5, 3) := by decide +kernel
theorem ddM_highest_47 : decode cM_highest 47 = .ok (.bipush 30, 2) := by decide +kernel
theorem ddM_highest_49 : decode cM_highest 49 = .ok (.ireturn, 1) := by decide +kernel
set_option maxHeartbeats 2000000 in
theorem zBM_highest_49 {G : GXM} {X : CxM} (hG : GokM G) (C : CoM G X cM_highest "HomeFreedModel") (N : mLM X = 2) {d : Nat} (hD : dpM X = d) (hd : 0 ≤ d)  {q : Int32 × Mem} (E : EnM G X (some .int) (some (.int q.1)) q.2 0 0) {w0 : Int32} {M : Mem} (h : BM_highest_49 w0 M = some q) : ZM G X 49 [] [.int w0] M 0 0 := by
  unfold BM_highest_49 at h
  obtain rfl := Option.some.inj h
  exact zz_iret C E ddM_highest_49
set_option maxHeartbeats 2000000 in
theorem xM_highest {G : GXM} {l : Launch} (hG : GokM G) (d : Nat) (hd : 0 ≤ d) {v0 : Int32} {v1 : Int32} {M : Mem} {q : Int32 × Mem} (h : fM_highest v0 v1 M = some q) : ExM G l d 0 0 yM_highest cM_highest 2 (some .int) [.int v0, .int v1] M (some (.int q.1)) q.2 := by
  refine ex_of hG (by decide +kernel) (Nat.le_of_ble_eq_true rfl) ?_
  intro X hl C E N hD hn
  show ZM G X 0 [(0, .int v0), (1, .int v1)] [] M 0 0
  unfold fM_highest at h
  refine zz_iload_n C 0 ddM_highest_0 rfl rfl ?_
  refine zz_bipush (v := 99) C ddM_highest_1 (by decide) ?_
  refine zz_icmp_ne (tgt := 9) C ddM_highest_3 rfl (fun hc => ?_) (fun hc => ?_)
  · replace h := iteF h hc
    refine zz_iload_n C 1 ddM_highest_9 rfl rfl ?_
    refine zz_if_ne (tgt := 17) C ddM_highest_10 rfl (fun hc => ?_) (fun hc => ?_)
    · replace h := iteF h hc
      refine zz_iload_n C 1 ddM_highest_17 rfl rfl ?_
      refine zz_iconst (v := 1) C ddM_highest_18 (by decide) ?_
      refine zz_icmp_ne (tgt := 27) C ddM_highest_19 rfl (fun hc => ?_) (fun hc => ?_)
      · replace h := iteF h hc
        refine zz_iload_n C 1 ddM_highest_27 rfl rfl ?_
        refine zz_iconst (v := 2) C ddM_highest_28 (by decide) ?_
        refine zz_icmp_ne (tgt := 37) C ddM_highest_29 rfl (fun hc => ?_) (fun hc => ?_)
        · replace h := iteF h hc
          refine zz_iload_n C 1 ddM_highest_37 rfl rfl ?_
          refine zz_iconst (v := 3) C ddM_highest_38 (by decide) ?_
          refine zz_icmp_ne (tgt := 47) C ddM_highest_39 rfl (fun hc => ?_) (fun hc => ?_)
          · replace h := iteF h hc
            refine zz_bipush (v := 30) C ddM_highest_47 (by decide) ?_
            refine zz_loc (L1 := []) [] rfl ?_
            exact zBM_highest_49 hG C N hD hd E h
          · replace h := iteT h hc
            refine zz_bipush (v := 9) C ddM_highest_42 (by decide) ?_
            refine zz_goto (tgt := 49) C ddM_highest_44 rfl ?_
            refine zz_loc (L1 := []) [] rfl ?_
            exact zBM_highest_49 hG C N hD hd E h
        · replace h := iteT h hc
          refine zz_bipush (v := 40) C ddM_highest_32 (by decide) ?_
          refine zz_goto (tgt := 49) C ddM_highest_34 rfl ?_
          refine zz_loc (L1 := []) [] rfl ?_
          exact zBM_highest_49 hG C N hD hd E h
      · replace h := iteT h hc
        refine zz_bipush (v := 16) C ddM_highest_22 (by decide) ?_
        refine zz_goto (tgt := 49) C ddM_highest_24 rfl ?_
        refine zz_loc (L1 := []) [] rfl ?_
        exact zBM_highest_49 hG C N hD hd E h
    · replace h := iteT h hc
      refine zz_iconst (v := 4) C ddM_highest_13 (by decide) ?_
      refine zz_goto (tgt := 49) C ddM_highest_14 rfl ?_
      refine zz_loc (L1 := []) [] rfl ?_
      exact zBM_highest_49 hG C N hD hd E h
  · replace h := iteT h hc
    refine zz_bipush (v := 40) C ddM_highest_6 (by decide) ?_
    obtain rfl := Option.some.inj h
    exact zz_iret C E ddM_highest_8
theorem ddM_isDigit_0 : decode cM_isDigit 0 = .ok (.iload_n 0, 1) := by decide +kernel
theorem ddM_isDigit_1 : decode cM_isDigit 1 = .ok (.bipush 48, 2) := by decide +kernel
theorem ddM_isDigit_3 : decode cM_isDigit 3 = .ok (.if_icmp .lt 13, 3) := by decide +kernel
theorem ddM_isDigit_6 : decode cM_isDigit 6 = .ok (.iload_n 0, 1) := by decide +kernel
theorem ddM_isDigit_7 : decode cM_isDigit 7 = .ok (.bipush 57, 2) := by decide +kernel
theorem ddM_isDigit_9 : decode cM_isDigit 9 = .ok (.if_icmp .gt 7, 3) := by decide +kernel
theorem ddM_isDigit_12 : decode cM_isDigit 12 = .ok (.iconst 1, 1) := by decide +kernel
theorem ddM_isDigit_13 : decode cM_isDigit 13 = .ok (.goto 4, 3) := by decide +kernel
theorem ddM_isDigit_16 : decode cM_isDigit 16 = .ok (.iconst 0, 1) := by decide +kernel
theorem ddM_isDigit_17 : decode cM_isDigit 17 = .ok (.ireturn, 1) := by decide +kernel
set_option maxHeartbeats 2000000 in
theorem zBM_isDigit_17 {G : GXM} {X : CxM} (hG : GokM G) (C : CoM G X cM_isDigit "HomeFreedModel") (N : mLM X = 1) {d : Nat} (hD : dpM X = d) (hd : 0 ≤ d)  {q : Int32 × Mem} (E : EnM G X (some .boolean) (some (.int q.1)) q.2 0 0) {w0 : Int32} {M : Mem} (h : BM_isDigit_17 w0 M = some q) : ZM G X 17 [] [.int w0] M 0 0 := by
  unfold BM_isDigit_17 at h
  obtain ⟨h1, h⟩ := gdN h
  obtain rfl := Option.some.inj h
  exact zz_zret C (of_decide_eq_true h1) E ddM_isDigit_17
set_option maxHeartbeats 2000000 in
theorem zBM_isDigit_16 {G : GXM} {X : CxM} (hG : GokM G) (C : CoM G X cM_isDigit "HomeFreedModel") (N : mLM X = 1) {d : Nat} (hD : dpM X = d) (hd : 0 ≤ d)  {q : Int32 × Mem} (E : EnM G X (some .boolean) (some (.int q.1)) q.2 0 0) {M : Mem} (h : BM_isDigit_16 M = some q) : ZM G X 16 [] [] M 0 0 := by
  unfold BM_isDigit_16 at h
  refine zz_iconst (v := 0) C ddM_isDigit_16 (by decide) ?_
  exact zBM_isDigit_17 hG C N hD hd E h
set_option maxHeartbeats 2000000 in
theorem xM_isDigit {G : GXM} {l : Launch} (hG : GokM G) (d : Nat) (hd : 0 ≤ d) {v0 : Int32} {M : Mem} {q : Int32 × Mem} (h : fM_isDigit v0 M = some q) : ExM G l d 0 0 yM_isDigit cM_isDigit 1 (some .boolean) [.int v0] M (some (.int q.1)) q.2 := by
  refine ex_of hG (by decide +kernel) (Nat.le_of_ble_eq_true rfl) ?_
  intro X hl C E N hD hn
  show ZM G X 0 [(0, .int v0)] [] M 0 0
  unfold fM_isDigit at h
  refine zz_iload_n C 0 ddM_isDigit_0 rfl rfl ?_
  refine zz_bipush (v := 48) C ddM_isDigit_1 (by decide) ?_
  refine zz_icmp_lt (tgt := 16) C ddM_isDigit_3 rfl (fun hc => ?_) (fun hc => ?_)
  · replace h := iteT h hc
    refine zz_loc (L1 := []) [] rfl ?_
    exact zBM_isDigit_16 hG C N hD hd E h
  · replace h := iteF h hc
    refine zz_iload_n C 0 ddM_isDigit_6 rfl rfl ?_
    refine zz_bipush (v := 57) C ddM_isDigit_7 (by decide) ?_
    refine zz_icmp_gt (tgt := 16) C ddM_isDigit_9 rfl (fun hc => ?_) (fun hc => ?_)
    · replace h := iteT h hc
      refine zz_loc (L1 := []) [] rfl ?_
      exact zBM_isDigit_16 hG C N hD hd E h
    · replace h := iteF h hc
      refine zz_iconst (v := 1) C ddM_isDigit_12 (by decide) ?_
      refine zz_goto (tgt := 17) C ddM_isDigit_13 rfl ?_
      refine zz_loc (L1 := []) [] rfl ?_
      exact zBM_isDigit_17 hG C N hD hd E h
theorem ddM_bad_0 : decode cM_bad 0 = .ok (.aload_n 0, 1) := by decide +kernel
theorem ddM_bad_1 : decode cM_bad 1 = .ok (.aload_n 0, 1) := by decide +kernel
theorem ddM_bad_2 : decode cM_bad 2 = .ok (.getfield 86, 3) := by decide +kernel
theorem ddM_bad_5 : decode cM_bad 5 = .ok (.iconst (-1), 1) := by decide +kernel
theorem ddM_bad_6 : decode cM_bad 6 = .ok (.if_icmp .ne 10, 3) := by decide +kernel
theorem ddM_bad_9 : decode cM_bad 9 = .ok (.aload_n 0, 1) := by decide +kernel
theorem ddM_bad_10 : decode cM_bad 10 = .ok (.getfield 79, 3) := by decide +kernel
theorem ddM_bad_13 : decode cM_bad 13 = .ok (.goto 7, 3) := by decide +kernel
theorem ddM_bad_16 : decode cM_bad 16 = .ok (.aload_n 0, 1) := by decide +kernel
theorem ddM_bad_17 : decode cM_bad 17 = .ok (.getfield 86, 3) := by decide +kernel
theorem ddM_bad_20 : decode cM_bad 20 = .ok (.putfield 86, 3) := by decide +kernel
theorem ddM_bad_23 : decode cM_bad 23 = .ok (.return_, 1) := by decide +kernel
set_option maxHeartbeats 2000000 in
theorem zBM_bad_20 {G : GXM} {X : CxM} (hG : GokM G) (C : CoM G X cM_bad "HomeFreedModel") (N : mLM X = 1) {d : Nat} (hD : dpM X = d) (hd : 0 ≤ d)  {q : Mem} (E : EnM G X none none q 0 0) {w0 : Nat} {w1 : Int32} {M : Mem} (h : BM_bad_20 w0 w1 M = some q) : ZM G X 20 [] [.int w1, .ref w0] M 0 0 := by
  unfold BM_bad_20 at h
  obtain ⟨h1, h⟩ := gdN h
  refine zz_puti C ddM_bad_20 fl_M_86 rfl rfl rfl h1 ?_
  obtain rfl := Option.some.inj h
  exact zz_vret C E ddM_bad_23
set_option maxHeartbeats 2000000 in
theorem xM_bad {G : GXM} {l : Launch} (hG : GokM G) (d : Nat) (hd : 0 ≤ d) {v0 : Nat} {M : Mem} {q : Mem} (h : fM_bad v0 M = some q) : ExM G l d 0 0 yM_bad cM_bad 1 none [.ref v0] M none q := by
  refine ex_of hG (by decide +kernel) (Nat.le_of_ble_eq_true rfl) ?_
  intro X hl C E N hD hn
  show ZM G X 0 [(0, .ref v0)] [] M 0 0
  unfold fM_bad at h
  refine zz_aload_n C 0 ddM_bad_0 rfl rfl ?_
  refine zz_aload_n C 0 ddM_bad_1 rfl rfl ?_
  obtain ⟨h1, h⟩ := gdN h
  refine zz_geti C ddM_bad_2 fl_M_86 rfl h1 ?_
  refine zz_iconst (v := (-1)) C ddM_bad_5 (by decide) ?_
  refine zz_icmp_ne (tgt := 16) C ddM_bad_6 rfl (fun hc => ?_) (fun hc => ?_)
  · replace h := iteF h hc
    refine zz_aload_n C 0 ddM_bad_16 rfl rfl ?_
    refine zz_geti C ddM_bad_17 fl_M_86 rfl h1 ?_
    refine zz_loc (L1 := []) [] rfl ?_
    exact zBM_bad_20 hG C N hD hd E h
  · replace h := iteT h hc
    refine zz_aload_n C 0 ddM_bad_9 rfl rfl ?_
    refine zz_geti C ddM_bad_10 fl_M_79 rfl h1 ?_
    refine zz_goto (tgt := 20) C ddM_bad_13 rfl ?_
    refine zz_loc (L1 := []) [] rfl ?_
    exact zBM_bad_20 hG C N hD hd E h
theorem ddM_number_0 : decode cM_number 0 = .ok (.aload_n 0, 1) := by decide +kernel
theorem ddM_number_1 : decode cM_number 1 = .ok (.invokevirtual 89, 3) := by decide +kernel
theorem ddM_number_4 : decode cM_number 4 = .ok (.invokestatic 92, 3) := by decide +kernel
theorem ddM_number_7 : decode cM_number 7 = .ok (.ifCond .ne 9, 3) := by decide +kernel
theorem ddM_number_10 : decode cM_number 10 = .ok (.aload_n 0, 1) := by decide +kernel
theorem ddM_number_11 : decode cM_number 11 = .ok (.invokevirtual 96, 3) := by decide +kernel
theorem ddM_number_14 : decode cM_number 14 = .ok (.iload_n 1, 1) := by decide +kernel
theorem ddM_number_15 : decode cM_number 15 = .ok (.ireturn, 1) := by decide +kernel
theorem ddM_number_16 : decode cM_number 16 = .ok (.aload_n 0, 1) := by decide +kernel
theorem ddM_number_17 : decode cM_number 17 = .ok (.invokevirtual 82, 3) := by decide +kernel
theorem ddM_number_20 : decode cM_number 20 = .ok (.bipush 48, 2) := by decide +kernel
theorem ddM_number_22 : decode cM_number 22 = .ok (.isub, 1) := by decide +kernel
theorem ddM_number_23 : decode cM_number 23 = .ok (.istore_n 3, 1) := by decide +kernel
theorem ddM_number_24 : decode cM_number 24 = .ok (.aload_n 0, 1) := by decide +kernel
theorem ddM_number_25 : decode cM_number 25 = .ok (.dup, 1) := by decide +kernel
theorem ddM_number_26 : decode cM_number 26 = .ok (.getfield 79, 3) := by decide +kernel
theorem ddM_number_29 : decode cM_number 29 = .ok (.iconst 1, 1) := by decide +kernel
theorem ddM_number_30 : decode cM_number 30 = .ok (.iadd, 1) := by decide +kernel
theorem ddM_number_31 : decode cM_number 31 = .ok (.putfield 79, 3) := by decide +kernel
theorem ddM_number_34 : decode cM_number 34 = .ok (.aload_n 0, 1) := by decide +kernel
theorem ddM_number_35 : decode cM_number 35 = .ok (.invokevirtual 82, 3) := by decide +kernel
theorem ddM_number_38 : decode cM_number 38 = .ok (.invokestatic 92, 3) := by decide +kernel
theorem ddM_number_41 : decode cM_number 41 = .ok (.ifCond .eq 26, 3) := by decide +kernel
theorem ddM_number_44 : decode cM_number 44 = .ok (.bipush 10, 2) := by decide +kernel
theorem ddM_number_46 : decode cM_number 46 = .ok (.iload_n 3, 1) := by decide +kernel
theorem ddM_number_47 : decode cM_number 47 = .ok (.imul, 1) := by decide +kernel
theorem ddM_number_48 : decode cM_number 48 = .ok (.aload_n 0, 1) := by decide +kernel
theorem ddM_number_49 : decode cM_number 49 = .ok (.invokevirtual 82, 3) := by decide +kernel
theorem ddM_number_52 : decode cM_number 52 = .ok (.iadd, 1) := by decide +kernel
theorem ddM_number_53 : decode cM_number 53 = .ok (.bipush 48, 2) := by decide +kernel
theorem ddM_number_55 : decode cM_number 55 = .ok (.isub, 1) := by decide +kernel
theorem ddM_number_56 : decode cM_number 56 = .ok (.istore_n 3, 1) := by decide +kernel
theorem ddM_number_57 : decode cM_number 57 = .ok (.aload_n 0, 1) := by decide +kernel
theorem ddM_number_58 : decode cM_number 58 = .ok (.dup, 1) := by decide +kernel
theorem ddM_number_59 : decode cM_number 59 = .ok (.getfield 79, 3) := by decide +kernel
theorem ddM_number_62 : decode cM_number 62 = .ok (.iconst 1, 1) := by decide +kernel
theorem ddM_number_63 : decode cM_number 63 = .ok (.iadd, 1) := by decide +kernel
theorem ddM_number_64 : decode cM_number 64 = .ok (.putfield 79, 3) := by decide +kernel
theorem ddM_number_67 : decode cM_number 67 = .ok (.aload_n 0, 1) := by decide +kernel
theorem ddM_number_68 : decode cM_number 68 = .ok (.invokevirtual 82, 3) := by decide +kernel
theorem ddM_number_71 : decode cM_number 71 = .ok (.invokestatic 92, 3) := by decide +kernel
theorem ddM_number_74 : decode cM_number 74 = .ok (.ifCond .eq 10, 3) := by decide +kernel
theorem ddM_number_77 : decode cM_number 77 = .ok (.aload_n 0, 1) := by decide +kernel
theorem ddM_number_78 : decode cM_number 78 = .ok (.invokevirtual 96, 3) := by decide +kernel
theorem ddM_number_81 : decode cM_number 81 = .ok (.goto 26, 3) := by decide +kernel
theorem ddM_number_84 : decode cM_number 84 = .ok (.iload_n 3, 1) := by decide +kernel
theorem ddM_number_85 : decode cM_number 85 = .ok (.iload_n 1, 1) := by decide +kernel
theorem ddM_number_86 : decode cM_number 86 = .ok (.iload_n 2, 1) := by decide +kernel
theorem ddM_number_87 : decode cM_number 87 = .ok (.invokestatic 75, 3) := by decide +kernel
theorem ddM_number_90 : decode cM_number 90 = .ok (.ifCond .ne 17, 3) := by decide +kernel
theorem ddM_number_93 : decode cM_number 93 = .ok (.aload_n 0, 1) := by decide +kernel
theorem ddM_number_94 : decode cM_number 94 = .ok (.dup, 1) := by decide +kernel
theorem ddM_number_95 : decode cM_number 95 = .ok (.getfield 79, 3) := by decide +kernel
theorem ddM_number_98 : decode cM_number 98 = .ok (.iconst 1, 1) := by decide +kernel
theorem ddM_number_99 : decode cM_number 99 = .ok (.isub, 1) := by decide +kernel
theorem ddM_number_100 : decode cM_number 100 = .ok (.putfield 79, 3) := by decide +kernel
theorem ddM_number_103 : decode cM_number 103 = .ok (.aload_n 0, 1) := by decide +kernel
theorem ddM_number_104 : decode cM_number 104 = .ok (.invokevirtual 96, 3) := by decide +kernel
theorem ddM_number_107 : decode cM_number 107 = .ok (.iload_n 3, 1) := by decide +kernel
theorem ddM_number_108 : decode cM_number 108 = .ok (.ireturn, 1) := by decide +kernel
set_option maxHeartbeats 2000000 in
theorem zBM_number_107 {G : GXM} {X : CxM} (hG : GokM G) (C : CoM G X cM_number "HomeFreedModel") (N : mLM X = 4) {d : Nat} (hD : dpM X = d) (hd : 2 ≤ d)  {q : Int32 × Mem} (E : EnM G X (some .int) (some (.int q.1)) q.2 0 0) {v3 : Int32} {M : Mem} (h : BM_number_107 v3 M = some q) : ZM G X 107 [(3, .int v3)] [] M 0 0 := by
  unfold BM_number_107 at h
  refine zz_iload_n C 0 ddM_number_107 rfl rfl ?_
  obtain rfl := Option.some.inj h
  exact zz_iret C E ddM_number_108
set_option maxHeartbeats 2000000 in
theorem zBM_number_67 {G : GXM} {X : CxM} (hG : GokM G) (C : CoM G X cM_number "HomeFreedModel") (N : mLM X = 4) {d : Nat} (hD : dpM X = d) (hd : 2 ≤ d)  {q : Int32 × Mem} (E : EnM G X (some .int) (some (.int q.1)) q.2 0 0) {v0 : Nat} {v1 : Int32} {v2 : Int32} {v3 : Int32} {M : Mem} (h : BM_number_67 v0 v1 v2 v3 M = some q) : ZM G X 67 [(0, .ref v0), (1, .int v1), (2, .int v2), (3, .int v3)] [] M 0 0 := by
  unfold BM_number_67 at h
  refine zz_aload_n C 0 ddM_number_67 rfl rfl ?_
  obtain ⟨h2, h⟩ := gdN h
  obtain ⟨q1, hq1, h⟩ := bindN h
  refine zz_callV0 (As := []) C ddM_number_68 wd_1307 my_M_here mv_M_here ⟨_, rfl, rfl⟩ (xM_here hG (d - 1) (by omega) hq1) (by omega) h2 rfl rfl (Nat.le_of_ble_eq_true rfl) ?_
  obtain ⟨q3, hq3, h⟩ := bindN h
  refine zz_callS0 (As := [.int q1.1]) C ddM_number_71 wd_1328 my_M_isDigit mv_M_isDigit (xM_isDigit hG (d - 1) (by omega) hq3) (by omega) rfl rfl (Nat.le_of_ble_eq_true rfl) ?_
  refine zz_if_eq (tgt := 84) C ddM_number_74 rfl (fun hc => ?_) (fun hc => ?_)
  · replace h := iteT h hc
    refine zz_iload_n C 3 ddM_number_84 rfl rfl ?_
    refine zz_iload_n C 1 ddM_number_85 rfl rfl ?_
    refine zz_iload_n C 2 ddM_number_86 rfl rfl ?_
    obtain ⟨q4, hq4, h⟩ := bindN h
    refine zz_callS0 (As := [.int v3, .int v1, .int v2]) C ddM_number_87 wd_1289 my_M_in mv_M_in (xM_in hG (d - 1) (by omega) hq4) (by omega) rfl rfl (Nat.le_of_ble_eq_true rfl) ?_
    refine zz_if_ne (tgt := 107) C ddM_number_90 rfl (fun hc => ?_) (fun hc => ?_)
    · replace h := iteF h hc
      refine zz_loc (L1 := [(3, .int v3)]) [3] rfl ?_
      exact zBM_number_107 hG C N hD hd E h
    · replace h := iteT h hc
      refine zz_aload_n C 0 ddM_number_93 rfl rfl ?_
      refine zz_dup C ddM_number_94 rfl ?_
      obtain ⟨h5, h⟩ := gdN h
      refine zz_geti C ddM_number_95 fl_M_79 rfl h5 ?_
      refine zz_iconst (v := 1) C ddM_number_98 (by decide) ?_
      refine zz_isub C ddM_number_99 ?_
      refine zz_puti C ddM_number_100 fl_M_79 rfl rfl rfl h5 ?_
      refine zz_aload_n C 0 ddM_number_103 rfl rfl ?_
      obtain ⟨q6, hq6, h⟩ := bindN h
      refine zz_callV0 (As := []) C ddM_number_104 wd_1331 my_M_bad mv_M_bad ⟨_, rfl, rfl⟩ (xM_bad hG (d - 1) (by omega) hq6) (by omega) h5 rfl rfl (Nat.le_of_ble_eq_true rfl) ?_
      refine zz_loc (L1 := [(3, .int v3)]) [3] rfl ?_
      exact zBM_number_107 hG C N hD hd E h
  · replace h := iteF h hc
    refine zz_aload_n C 0 ddM_number_77 rfl rfl ?_
    obtain ⟨h8, h⟩ := gdN h
    obtain ⟨q7, hq7, h⟩ := bindN h
    refine zz_callV0 (As := []) C ddM_number_78 wd_1331 my_M_bad mv_M_bad ⟨_, rfl, rfl⟩ (xM_bad hG (d - 1) (by omega) hq7) (by omega) h8 rfl rfl (Nat.le_of_ble_eq_true rfl) ?_
    refine zz_goto (tgt := 107) C ddM_number_81 rfl ?_
    refine zz_loc (L1 := [(3, .int v3)]) [3] rfl ?_
    exact zBM_number_107 hG C N hD hd E h
set_option maxHeartbeats 2000000 in
theorem xM_number {G : GXM} {l : Launch} (hG : GokM G) (d : Nat) (hd : 2 ≤ d) {v0 : Nat} {v1 : Int32} {v2 : Int32} {M : Mem} {q : Int32 × Mem} (h : fM_number v0 v1 v2 M = some q) : ExM G l d 0 0 yM_number cM_number 4 (some .int) [.ref v0, .int v1, .int v2] M (some (.int q.1)) q.2 := by
  refine ex_of hG (by decide +kernel) (Nat.le_of_ble_eq_true rfl) ?_
  intro X hl C E N hD hn
  show ZM G X 0 [(0, .ref v0), (1, .int v1), (2, .int v2)] [] M 0 0
  unfold fM_number at h
  refine zz_aload_n C 0 ddM_number_0 rfl rfl ?_
  obtain ⟨h2, h⟩ := gdN h
  obtain ⟨q1, hq1, h⟩ := bindN h
  refine zz_callV0 (As := []) C ddM_number_1 wd_1303 my_M_ahead mv_M_ahead ⟨_, rfl, rfl⟩ (xM_ahead hG (d - 1) (by omega) hq1) (by omega) h2 rfl rfl (Nat.le_of_ble_eq_true rfl) ?_
  obtain ⟨q3, hq3, h⟩ := bindN h
  refine zz_callS0 (As := [.int q1.1]) C ddM_number_4 wd_1328 my_M_isDigit mv_M_isDigit (xM_isDigit hG (d - 1) (by omega) hq3) (by omega) rfl rfl (Nat.le_of_ble_eq_true rfl) ?_
  refine zz_if_ne (tgt := 16) C ddM_number_7 rfl (fun hc => ?_) (fun hc => ?_)
  · replace h := iteF h hc
    refine zz_aload_n C 0 ddM_number_16 rfl rfl ?_
    obtain ⟨h5, h⟩ := gdN h
    obtain ⟨q4, hq4, h⟩ := bindN h
    refine zz_callV0 (As := []) C ddM_number_17 wd_1307 my_M_here mv_M_here ⟨_, rfl, rfl⟩ (xM_here hG (d - 1) (by omega) hq4) (by omega) h5 rfl rfl (Nat.le_of_ble_eq_true rfl) ?_
    refine zz_bipush (v := 48) C ddM_number_20 (by decide) ?_
    refine zz_isub C ddM_number_22 ?_
    refine zz_istore_n (L1 := [(3, .int (q4.1 - 48)), (0, .ref v0), (1, .int v1), (2, .int v2)]) C ddM_number_23 rfl N (by decide) rfl ?_
    refine zz_aload_n C 1 ddM_number_24 rfl rfl ?_
    refine zz_dup C ddM_number_25 rfl ?_
    obtain ⟨h6, h⟩ := gdN h
    refine zz_geti C ddM_number_26 fl_M_79 rfl h6 ?_
    refine zz_iconst (v := 1) C ddM_number_29 (by decide) ?_
    refine zz_iadd C ddM_number_30 ?_
    refine zz_puti C ddM_number_31 fl_M_79 rfl rfl rfl h6 ?_
    refine zz_aload_n C 1 ddM_number_34 rfl rfl ?_
    obtain ⟨q7, hq7, h⟩ := bindN h
    refine zz_callV0 (As := []) C ddM_number_35 wd_1307 my_M_here mv_M_here ⟨_, rfl, rfl⟩ (xM_here hG (d - 1) (by omega) hq7) (by omega) h6 rfl rfl (Nat.le_of_ble_eq_true rfl) ?_
    obtain ⟨q8, hq8, h⟩ := bindN h
    refine zz_callS0 (As := [.int q7.1]) C ddM_number_38 wd_1328 my_M_isDigit mv_M_isDigit (xM_isDigit hG (d - 1) (by omega) hq8) (by omega) rfl rfl (Nat.le_of_ble_eq_true rfl) ?_
    refine zz_if_eq (tgt := 67) C ddM_number_41 rfl (fun hc => ?_) (fun hc => ?_)
    · replace h := iteT h hc
      refine zz_loc (L1 := [(0, .ref v0), (1, .int v1), (2, .int v2), (3, .int (q4.1 - 48))]) [1, 2, 3, 0] rfl ?_
      exact zBM_number_67 hG C N hD hd E h
    · replace h := iteF h hc
      refine zz_bipush (v := 10) C ddM_number_44 (by decide) ?_
      refine zz_iload_n C 0 ddM_number_46 rfl rfl ?_
      refine zz_imul C ddM_number_47 ?_
      refine zz_aload_n C 1 ddM_number_48 rfl rfl ?_
      obtain ⟨h10, h⟩ := gdN h
      obtain ⟨q9, hq9, h⟩ := bindN h
      refine zz_callV0 (As := []) C ddM_number_49 wd_1307 my_M_here mv_M_here ⟨_, rfl, rfl⟩ (xM_here hG (d - 1) (by omega) hq9) (by omega) h10 rfl rfl (Nat.le_of_ble_eq_true rfl) ?_
      refine zz_iadd C ddM_number_52 ?_
      refine zz_bipush (v := 48) C ddM_number_53 (by decide) ?_
      refine zz_isub C ddM_number_55 ?_
      refine zz_istore_n (L1 := [(3, .int (((10 * (q4.1 - 48)) + q9.1) - 48)), (0, .ref v0), (1, .int v1), (2, .int v2)]) C ddM_number_56 rfl N (by decide) rfl ?_
      refine zz_aload_n C 1 ddM_number_57 rfl rfl ?_
      refine zz_dup C ddM_number_58 rfl ?_
      obtain ⟨h11, h⟩ := gdN h
      refine zz_geti C ddM_number_59 fl_M_79 rfl h11 ?_
      refine zz_iconst (v := 1) C ddM_number_62 (by decide) ?_
      refine zz_iadd C ddM_number_63 ?_
      refine zz_puti C ddM_number_64 fl_M_79 rfl rfl rfl h11 ?_
      refine zz_loc (L1 := [(0, .ref v0), (1, .int v1), (2, .int v2), (3, .int (((10 * (q4.1 - 48)) + q9.1) - 48))]) [1, 2, 3, 0] rfl ?_
      exact zBM_number_67 hG C N hD hd E h
  · replace h := iteT h hc
    refine zz_aload_n C 0 ddM_number_10 rfl rfl ?_
    obtain ⟨h13, h⟩ := gdN h
    obtain ⟨q12, hq12, h⟩ := bindN h
    refine zz_callV0 (As := []) C ddM_number_11 wd_1331 my_M_bad mv_M_bad ⟨_, rfl, rfl⟩ (xM_bad hG (d - 1) (by omega) hq12) (by omega) h13 rfl rfl (Nat.le_of_ble_eq_true rfl) ?_
    refine zz_iload_n C 1 ddM_number_14 rfl rfl ?_
    obtain rfl := Option.some.inj h
    exact zz_iret C E ddM_number_15
theorem ddM_items_0 : decode cM_items 0 = .ok (.iconst 0, 1) := by decide +kernel
theorem ddM_items_1 : decode cM_items 1 = .ok (.istore 5, 2) := by decide +kernel
theorem ddM_items_3 : decode cM_items 3 = .ok (.iload 5, 2) := by decide +kernel
theorem ddM_items_5 : decode cM_items 5 = .ok (.iload 4, 2) := by decide +kernel
theorem ddM_items_7 : decode cM_items 7 = .ok (.if_icmp .ge 21, 3) := by decide +kernel
theorem ddM_items_10 : decode cM_items 10 = .ok (.aload_n 2, 1) := by decide +kernel
theorem ddM_items_11 : decode cM_items 11 = .ok (.iload_n 3, 1) := by decide +kernel
theorem ddM_items_12 : decode cM_items 12 = .ok (.iload 5, 2) := by decide +kernel
theorem ddM_items_14 : decode cM_items 14 = .ok (.iadd, 1) := by decide +kernel
theorem ddM_items_15 : decode cM_items 15 = .ok (.iload_n 1, 1) := by decide +kernel
theorem ddM_items_16 : decode cM_items 16 = .ok (.iload 5, 2) := by decide +kernel
theorem ddM_items_18 : decode cM_items 18 = .ok (.invokestatic 99, 3) := by decide +kernel
theorem ddM_items_21 : decode cM_items 21 = .ok (.iastore, 1) := by decide +kernel
theorem ddM_items_22 : decode cM_items 22 = .ok (.iinc 5 1, 3) := by decide +kernel
theorem ddM_items_25 : decode cM_items 25 = .ok (.goto (-22), 3) := by decide +kernel
theorem ddM_items_28 : decode cM_items 28 = .ok (.iconst 0, 1) := by decide +kernel
theorem ddM_items_29 : decode cM_items 29 = .ok (.istore 5, 2) := by decide +kernel
theorem ddM_items_31 : decode cM_items 31 = .ok (.iload_n 1, 1) := by decide +kernel
theorem ddM_items_32 : decode cM_items 32 = .ok (.aload_n 0, 1) := by decide +kernel
theorem ddM_items_33 : decode cM_items 33 = .ok (.invokevirtual 89, 3) := by decide +kernel
theorem ddM_items_36 : decode cM_items 36 = .ok (.invokestatic 103, 3) := by decide +kernel
theorem ddM_items_39 : decode cM_items 39 = .ok (.istore 6, 2) := by decide +kernel
theorem ddM_items_41 : decode cM_items 41 = .ok (.aload_n 0, 1) := by decide +kernel
theorem ddM_items_42 : decode cM_items 42 = .ok (.getfield 86, 3) := by decide +kernel
theorem ddM_items_45 : decode cM_items 45 = .ok (.iconst (-1), 1) := by decide +kernel
theorem ddM_items_46 : decode cM_items 46 = .ok (.if_icmp .ne 96, 3) := by decide +kernel
theorem ddM_items_49 : decode cM_items 49 = .ok (.iload 6, 2) := by decide +kernel
theorem ddM_items_51 : decode cM_items 51 = .ok (.iconst (-1), 1) := by decide +kernel
theorem ddM_items_52 : decode cM_items 52 = .ok (.if_icmp .eq 90, 3) := by decide +kernel
theorem ddM_items_55 : decode cM_items 55 = .ok (.iload 5, 2) := by decide +kernel
theorem ddM_items_57 : decode cM_items 57 = .ok (.iload 6, 2) := by decide +kernel
theorem ddM_items_59 : decode cM_items 59 = .ok (.invokestatic 106, 3) := by decide +kernel
theorem ddM_items_62 : decode cM_items 62 = .ok (.ifCond .ne 80, 3) := by decide +kernel
theorem ddM_items_65 : decode cM_items 65 = .ok (.iload 5, 2) := by decide +kernel
theorem ddM_items_67 : decode cM_items 67 = .ok (.iconst 1, 1) := by decide +kernel
theorem ddM_items_68 : decode cM_items 68 = .ok (.iload 6, 2) := by decide +kernel
theorem ddM_items_70 : decode cM_items 70 = .ok (.ishl, 1) := by decide +kernel
theorem ddM_items_71 : decode cM_items 71 = .ok (.ior, 1) := by decide +kernel
theorem ddM_items_72 : decode cM_items 72 = .ok (.istore 5, 2) := by decide +kernel
theorem ddM_items_74 : decode cM_items 74 = .ok (.aload_n 0, 1) := by decide +kernel
theorem ddM_items_75 : decode cM_items 75 = .ok (.dup, 1) := by decide +kernel
theorem ddM_items_76 : decode cM_items 76 = .ok (.getfield 79, 3) := by decide +kernel
theorem ddM_items_79 : decode cM_items 79 = .ok (.iconst 1, 1) := by decide +kernel
theorem ddM_items_80 : decode cM_items 80 = .ok (.iadd, 1) := by decide +kernel
theorem ddM_items_81 : decode cM_items 81 = .ok (.putfield 79, 3) := by decide +kernel
theorem ddM_items_84 : decode cM_items 84 = .ok (.aload_n 2, 1) := by decide +kernel
theorem ddM_items_85 : decode cM_items 85 = .ok (.iload_n 3, 1) := by decide +kernel
theorem ddM_items_86 : decode cM_items 86 = .ok (.iload 6, 2) := by decide +kernel
theorem ddM_items_88 : decode cM_items 88 = .ok (.iadd, 1) := by decide +kernel
theorem ddM_items_89 : decode cM_items 89 = .ok (.aload_n 0, 1) := by decide +kernel
theorem ddM_items_90 : decode cM_items 90 = .ok (.iload_n 1, 1) := by decide +kernel
theorem ddM_items_91 : decode cM_items 91 = .ok (.bipush 115, 2) := by decide +kernel
theorem ddM_items_93 : decode cM_items 93 = .ok (.if_icmp .ne 13, 3) := by decide +kernel
theorem ddM_items_96 : decode cM_items 96 = .ok (.iload 6, 2) := by decide +kernel
theorem ddM_items_98 : decode cM_items 98 = .ok (.iconst 2, 1) := by decide +kernel
theorem ddM_items_99 : decode cM_items 99 = .ok (.if_icmp .ne 7, 3) := by decide +kernel
theorem ddM_items_102 : decode cM_items 102 = .ok (.iconst 4, 1) := by decide +kernel
theorem ddM_items_103 : decode cM_items 103 = .ok (.goto 4, 3) := by decide +kernel
theorem ddM_items_106 : decode cM_items 106 = .ok (.iconst 1, 1) := by decide +kernel
theorem ddM_items_107 : decode cM_items 107 = .ok (.iload_n 1, 1) := by decide +kernel
theorem ddM_items_108 : decode cM_items 108 = .ok (.iload 6, 2) := by decide +kernel
theorem ddM_items_110 : decode cM_items 110 = .ok (.invokestatic 110, 3) := by decide +kernel
theorem ddM_items_113 : decode cM_items 113 = .ok (.invokevirtual 113, 3) := by decide +kernel
theorem ddM_items_116 : decode cM_items 116 = .ok (.iastore, 1) := by decide +kernel
theorem ddM_items_117 : decode cM_items 117 = .ok (.aload_n 0, 1) := by decide +kernel
theorem ddM_items_118 : decode cM_items 118 = .ok (.getfield 86, 3) := by decide +kernel
theorem ddM_items_121 : decode cM_items 121 = .ok (.iconst (-1), 1) := by decide +kernel
theorem ddM_items_122 : decode cM_items 122 = .ok (.if_icmp .ne 14, 3) := by decide +kernel
theorem ddM_items_125 : decode cM_items 125 = .ok (.iload_n 1, 1) := by decide +kernel
theorem ddM_items_126 : decode cM_items 126 = .ok (.aload_n 0, 1) := by decide +kernel
theorem ddM_items_127 : decode cM_items 127 = .ok (.invokevirtual 89, 3) := by decide +kernel
theorem ddM_items_130 : decode cM_items 130 = .ok (.invokestatic 103, 3) := by decide +kernel
theorem ddM_items_133 : decode cM_items 133 = .ok (.goto 4, 3) := by decide +kernel
theorem ddM_items_136 : decode cM_items 136 = .ok (.iconst (-1), 1) := by decide +kernel
theorem ddM_items_137 : decode cM_items 137 = .ok (.istore 6, 2) := by decide +kernel
theorem ddM_items_139 : decode cM_items 139 = .ok (.goto (-98), 3) := by decide +kernel
theorem ddM_items_142 : decode cM_items 142 = .ok (.return_, 1) := by decide +kernel
set_option maxHeartbeats 2000000 in
theorem zBM_items_142 {G : GXM} {X : CxM} (hG : GokM G) (C : CoM G X cM_items "HomeFreedModel") (N : mLM X = 7) {d : Nat} (hD : dpM X = d) (hd : 3 ≤ d)  {q : Mem} (E : EnM G X none none q 0 0) {M : Mem} (h : BM_items_142 M = some q) : ZM G X 142 [] [] M 0 0 := by
  unfold BM_items_142 at h
  obtain rfl := Option.some.inj h
  exact zz_vret C E ddM_items_142
set_option maxHeartbeats 2000000 in
theorem zBM_items_137 {G : GXM} {X : CxM} (hG : GokM G) (C : CoM G X cM_items "HomeFreedModel") (N : mLM X = 7) {d : Nat} (hD : dpM X = d) (hd : 3 ≤ d) {v0 : Nat} {v1 : Int32} {v2 : Nat} {v3 : Int32} {K : Nat → Int32 → Nat → Int32 → Int32 → Int32 → Mem → Option ((Mem))} {q : (Mem)} (hK : ∀ (v5 : Int32) (v6 : Int32) (M : Mem), K v0 v1 v2 v3 v5 v6 M = some q → ZM G X 41 [(0, .ref v0), (1, .int v1), (2, .ref v2), (3, .int v3), (5, .int v5), (6, .int v6)] [] M 0 0) (hx0 : ∀ y : Mem, q = y → ZM G X 142 [] [] y 0 0) {v5 : Int32} {w0 : Int32} {M : Mem} (h : BM_items_137 K v0 v1 v2 v3 v5 w0 M = some q) : ZM G X 137 [(0, .ref v0), (1, .int v1), (2, .ref v2), (3, .int v3), (5, .int v5)] [.int w0] M 0 0 := by
  unfold BM_items_137 at h
  refine zz_istore (L1 := [(6, .int w0), (0, .ref v0), (1, .int v1), (2, .ref v2), (3, .int v3), (5, .int v5)]) C ddM_items_137 N (by decide) rfl ?_
  refine zz_goto (tgt := 41) C ddM_items_139 rfl ?_
  refine zz_loc (L1 := [(0, .ref v0), (1, .int v1), (2, .ref v2), (3, .int v3), (5, .int v5), (6, .int w0)]) [1, 2, 3, 4, 5, 0] rfl ?_
  exact hK _ _ _ h
set_option maxHeartbeats 2000000 in
theorem zBM_items_107 {G : GXM} {X : CxM} (hG : GokM G) (C : CoM G X cM_items "HomeFreedModel") (N : mLM X = 7) {d : Nat} (hD : dpM X = d) (hd : 3 ≤ d) {v0 : Nat} {v1 : Int32} {v2 : Nat} {v3 : Int32} {K : Nat → Int32 → Nat → Int32 → Int32 → Int32 → Mem → Option ((Mem))} {q : (Mem)} (hK : ∀ (v5 : Int32) (v6 : Int32) (M : Mem), K v0 v1 v2 v3 v5 v6 M = some q → ZM G X 41 [(0, .ref v0), (1, .int v1), (2, .ref v2), (3, .int v3), (5, .int v5), (6, .int v6)] [] M 0 0) (hx0 : ∀ y : Mem, q = y → ZM G X 142 [] [] y 0 0) {v5 : Int32} {v6 : Int32} {w0 : Nat} {w1 : Int32} {w2 : Nat} {w3 : Int32} {M : Mem} (h : BM_items_107 K v0 v1 v2 v3 v5 v6 w0 w1 w2 w3 M = some q) : ZM G X 107 [(0, .ref v0), (1, .int v1), (2, .ref v2), (3, .int v3), (5, .int v5), (6, .int v6)] [.int w3, .ref w2, .int w1, .ref w0] M 0 0 := by
  unfold BM_items_107 at h
  refine zz_iload_n C 1 ddM_items_107 rfl rfl ?_
  refine zz_iload C 5 ddM_items_108 rfl ?_
  obtain ⟨q1, hq1, h⟩ := bindN h
  refine zz_callS0 (As := [.int v1, .int v6]) C ddM_items_110 wd_1321 my_M_highest mv_M_highest (xM_highest hG (d - 1) (by omega) hq1) (by omega) rfl rfl (Nat.le_of_ble_eq_true rfl) ?_
  obtain ⟨h3, h⟩ := gdN h
  obtain ⟨q2, hq2, h⟩ := bindN h
  refine zz_callV0 (As := [.int w3, .int q1.1]) C ddM_items_113 wd_1324 my_M_number mv_M_number ⟨_, rfl, rfl⟩ (xM_number hG (d - 1) (by omega) hq2) (by omega) h3 rfl rfl (Nat.le_of_ble_eq_true rfl) ?_
  obtain ⟨h4, h⟩ := gdN h
  refine zz_iastore C ddM_items_116 h4 ?_
  refine zz_aload_n C 0 ddM_items_117 rfl rfl ?_
  obtain ⟨h5, h⟩ := gdN h
  refine zz_geti C ddM_items_118 fl_M_86 rfl h5 ?_
  refine zz_iconst (v := (-1)) C ddM_items_121 (by decide) ?_
  refine zz_icmp_ne (tgt := 136) C ddM_items_122 rfl (fun hc => ?_) (fun hc => ?_)
  · replace h := iteF h hc
    refine zz_iconst (v := (-1)) C ddM_items_136 (by decide) ?_
    refine zz_loc (L1 := [(0, .ref v0), (1, .int v1), (2, .ref v2), (3, .int v3), (5, .int v5)]) [0, 1, 2, 3, 4] rfl ?_
    exact zBM_items_137 hG C N hD hd hK hx0 h
  · replace h := iteT h hc
    refine zz_iload_n C 1 ddM_items_125 rfl rfl ?_
    refine zz_aload_n C 0 ddM_items_126 rfl rfl ?_
    obtain ⟨q6, hq6, h⟩ := bindN h
    refine zz_callV0 (As := []) C ddM_items_127 wd_1303 my_M_ahead mv_M_ahead ⟨_, rfl, rfl⟩ (xM_ahead hG (d - 1) (by omega) hq6) (by omega) h5 rfl rfl (Nat.le_of_ble_eq_true rfl) ?_
    obtain ⟨q7, hq7, h⟩ := bindN h
    refine zz_callS0 (As := [.int v1, .int q6.1]) C ddM_items_130 wd_1315 my_M_itemOf mv_M_itemOf (xM_itemOf hG (d - 1) (by omega) hq7) (by omega) rfl rfl (Nat.le_of_ble_eq_true rfl) ?_
    refine zz_goto (tgt := 137) C ddM_items_133 rfl ?_
    refine zz_loc (L1 := [(0, .ref v0), (1, .int v1), (2, .ref v2), (3, .int v3), (5, .int v5)]) [0, 1, 2, 3, 4] rfl ?_
    exact zBM_items_137 hG C N hD hd hK hx0 h
set_option maxHeartbeats 2000000 in
theorem zBM_items_106 {G : GXM} {X : CxM} (hG : GokM G) (C : CoM G X cM_items "HomeFreedModel") (N : mLM X = 7) {d : Nat} (hD : dpM X = d) (hd : 3 ≤ d) {v0 : Nat} {v1 : Int32} {v2 : Nat} {v3 : Int32} {K : Nat → Int32 → Nat → Int32 → Int32 → Int32 → Mem → Option ((Mem))} {q : (Mem)} (hK : ∀ (v5 : Int32) (v6 : Int32) (M : Mem), K v0 v1 v2 v3 v5 v6 M = some q → ZM G X 41 [(0, .ref v0), (1, .int v1), (2, .ref v2), (3, .int v3), (5, .int v5), (6, .int v6)] [] M 0 0) (hx0 : ∀ y : Mem, q = y → ZM G X 142 [] [] y 0 0) {v5 : Int32} {v6 : Int32} {w0 : Nat} {w1 : Int32} {w2 : Nat} {M : Mem} (h : BM_items_106 K v0 v1 v2 v3 v5 v6 w0 w1 w2 M = some q) : ZM G X 106 [(0, .ref v0), (1, .int v1), (2, .ref v2), (3, .int v3), (5, .int v5), (6, .int v6)] [.ref w2, .int w1, .ref w0] M 0 0 := by
  unfold BM_items_106 at h
  refine zz_iconst (v := 1) C ddM_items_106 (by decide) ?_
  exact zBM_items_107 hG C N hD hd hK hx0 h
set_option maxHeartbeats 2000000 in
theorem zBM_items_41 {G : GXM} {X : CxM} (hG : GokM G) (C : CoM G X cM_items "HomeFreedModel") (N : mLM X = 7) {d : Nat} (hD : dpM X = d) (hd : 3 ≤ d) {v0 : Nat} {v1 : Int32} {v2 : Nat} {v3 : Int32} {K : Nat → Int32 → Nat → Int32 → Int32 → Int32 → Mem → Option ((Mem))} {q : (Mem)} (hK : ∀ (v5 : Int32) (v6 : Int32) (M : Mem), K v0 v1 v2 v3 v5 v6 M = some q → ZM G X 41 [(0, .ref v0), (1, .int v1), (2, .ref v2), (3, .int v3), (5, .int v5), (6, .int v6)] [] M 0 0) (hx0 : ∀ y : Mem, q = y → ZM G X 142 [] [] y 0 0) {v5 : Int32} {v6 : Int32} {M : Mem} (h : BM_items_41 K v0 v1 v2 v3 v5 v6 M = some q) : ZM G X 41 [(0, .ref v0), (1, .int v1), (2, .ref v2), (3, .int v3), (5, .int v5), (6, .int v6)] [] M 0 0 := by
  unfold BM_items_41 at h
  refine zz_aload_n C 0 ddM_items_41 rfl rfl ?_
  obtain ⟨h1, h⟩ := gdN h
  refine zz_geti C ddM_items_42 fl_M_86 rfl h1 ?_
  refine zz_iconst (v := (-1)) C ddM_items_45 (by decide) ?_
  refine zz_icmp_ne (tgt := 142) C ddM_items_46 rfl (fun hc => ?_) (fun hc => ?_)
  · replace h := iteF h hc
    refine zz_loc (L1 := []) [] rfl ?_
    exact hx0 _ (Option.some.inj h).symm
  · replace h := iteT h hc
    refine zz_iload C 5 ddM_items_49 rfl ?_
    refine zz_iconst (v := (-1)) C ddM_items_51 (by decide) ?_
    refine zz_icmp_eq (tgt := 142) C ddM_items_52 rfl (fun hc => ?_) (fun hc => ?_)
    · replace h := iteT h hc
      refine zz_loc (L1 := []) [] rfl ?_
      exact hx0 _ (Option.some.inj h).symm
    · replace h := iteF h hc
      refine zz_iload C 4 ddM_items_55 rfl ?_
      refine zz_iload C 5 ddM_items_57 rfl ?_
      obtain ⟨q2, hq2, h⟩ := bindN h
      refine zz_callS0 (As := [.int v5, .int v6]) C ddM_items_59 wd_1318 my_M_has mv_M_has (xM_has hG (d - 1) (by omega) hq2) (by omega) rfl rfl (Nat.le_of_ble_eq_true rfl) ?_
      refine zz_if_ne (tgt := 142) C ddM_items_62 rfl (fun hc => ?_) (fun hc => ?_)
      · replace h := iteF h hc
        refine zz_loc (L1 := []) [] rfl ?_
        exact hx0 _ (Option.some.inj h).symm
      · replace h := iteT h hc
        refine zz_iload C 4 ddM_items_65 rfl ?_
        refine zz_iconst (v := 1) C ddM_items_67 (by decide) ?_
        refine zz_iload C 5 ddM_items_68 rfl ?_
        refine zz_ishl C ddM_items_70 ?_
        refine zz_ior C ddM_items_71 ?_
        refine zz_istore (L1 := [(5, .int (v5 ||| (1 <<< (v6 &&& 31)))), (0, .ref v0), (1, .int v1), (2, .ref v2), (3, .int v3), (6, .int v6)]) C ddM_items_72 N (by decide) rfl ?_
        refine zz_aload_n C 1 ddM_items_74 rfl rfl ?_
        refine zz_dup C ddM_items_75 rfl ?_
        obtain ⟨h3, h⟩ := gdN h
        refine zz_geti C ddM_items_76 fl_M_79 rfl h3 ?_
        refine zz_iconst (v := 1) C ddM_items_79 (by decide) ?_
        refine zz_iadd C ddM_items_80 ?_
        refine zz_puti C ddM_items_81 fl_M_79 rfl rfl rfl h3 ?_
        refine zz_aload_n C 3 ddM_items_84 rfl rfl ?_
        refine zz_iload_n C 4 ddM_items_85 rfl rfl ?_
        refine zz_iload C 5 ddM_items_86 rfl ?_
        refine zz_iadd C ddM_items_88 ?_
        refine zz_aload_n C 1 ddM_items_89 rfl rfl ?_
        refine zz_iload_n C 2 ddM_items_90 rfl rfl ?_
        refine zz_bipush (v := 115) C ddM_items_91 (by decide) ?_
        refine zz_icmp_ne (tgt := 106) C ddM_items_93 rfl (fun hc => ?_) (fun hc => ?_)
        · replace h := iteF h hc
          refine zz_loc (L1 := [(0, .ref v0), (1, .int v1), (2, .ref v2), (3, .int v3), (5, .int (v5 ||| (1 <<< (v6 &&& 31)))), (6, .int v6)]) [1, 2, 3, 4, 0, 5] rfl ?_
          exact zBM_items_106 hG C N hD hd hK hx0 h
        · replace h := iteT h hc
          refine zz_iload C 5 ddM_items_96 rfl ?_
          refine zz_iconst (v := 2) C ddM_items_98 (by decide) ?_
          refine zz_icmp_ne (tgt := 106) C ddM_items_99 rfl (fun hc => ?_) (fun hc => ?_)
          · replace h := iteF h hc
            refine zz_loc (L1 := [(0, .ref v0), (1, .int v1), (2, .ref v2), (3, .int v3), (5, .int (v5 ||| (1 <<< (v6 &&& 31)))), (6, .int v6)]) [1, 2, 3, 4, 0, 5] rfl ?_
            exact zBM_items_106 hG C N hD hd hK hx0 h
          · replace h := iteT h hc
            refine zz_iconst (v := 4) C ddM_items_102 (by decide) ?_
            refine zz_goto (tgt := 107) C ddM_items_103 rfl ?_
            refine zz_loc (L1 := [(0, .ref v0), (1, .int v1), (2, .ref v2), (3, .int v3), (5, .int (v5 ||| (1 <<< (v6 &&& 31)))), (6, .int v6)]) [1, 2, 3, 4, 0, 5] rfl ?_
            exact zBM_items_107 hG C N hD hd hK hx0 h
set_option maxHeartbeats 2000000 in
theorem zLM_items_41 {G : GXM} {X : CxM} (hG : GokM G) (C : CoM G X cM_items "HomeFreedModel") (N : mLM X = 7) {d : Nat} (hD : dpM X = d) (hd : 3 ≤ d) {v0 : Nat} {v1 : Int32} {v2 : Nat} {v3 : Int32} {q : (Mem)} : ∀ (f : Nat) (v5 : Int32) (v6 : Int32) (M : Mem), LM_items_41 f v0 v1 v2 v3 v5 v6 M = some q → (hx0 : ∀ y : Mem, q = y → ZM G X 142 [] [] y 0 0) → ZM G X 41 [(0, .ref v0), (1, .int v1), (2, .ref v2), (3, .int v3), (5, .int v5), (6, .int v6)] [] M 0 0 := by
  intro f
  induction f with
  | zero => intro v5 v6 M h; cases h
  | succ f ih =>
    intro v5 v6 M h hx0
    exact zBM_items_41 hG C N hD hd (K := LM_items_41 f) (q := q) (fun v5 v6 M h => ih v5 v6 M h hx0) hx0 h
set_option maxHeartbeats 2000000 in
theorem zBM_items_3 {G : GXM} {X : CxM} (hG : GokM G) (C : CoM G X cM_items "HomeFreedModel") (N : mLM X = 7) {d : Nat} (hD : dpM X = d) (hd : 3 ≤ d) {v0 : Nat} {v1 : Int32} {v2 : Nat} {v3 : Int32} {v4 : Int32} {K : Nat → Int32 → Nat → Int32 → Int32 → Int32 → Mem → Option ((Mem))} {q : (Mem)} (hK : ∀ (v5 : Int32) (M : Mem), K v0 v1 v2 v3 v4 v5 M = some q → ZM G X 3 [(0, .ref v0), (1, .int v1), (2, .ref v2), (3, .int v3), (4, .int v4), (5, .int v5)] [] M 0 0) (hx0 : ∀ y : Mem, q = y → ZM G X 28 [(0, .ref v0), (1, .int v1), (2, .ref v2), (3, .int v3)] [] y 0 0) {v5 : Int32} {M : Mem} (h : BM_items_3 K v0 v1 v2 v3 v4 v5 M = some q) : ZM G X 3 [(0, .ref v0), (1, .int v1), (2, .ref v2), (3, .int v3), (4, .int v4), (5, .int v5)] [] M 0 0 := by
  unfold BM_items_3 at h
  refine zz_iload C 5 ddM_items_3 rfl ?_
  refine zz_iload C 4 ddM_items_5 rfl ?_
  refine zz_icmp_ge (tgt := 28) C ddM_items_7 rfl (fun hc => ?_) (fun hc => ?_)
  · replace h := iteT h hc
    refine zz_loc (L1 := [(0, .ref v0), (1, .int v1), (2, .ref v2), (3, .int v3)]) [0, 1, 2, 3] rfl ?_
    exact hx0 _ (Option.some.inj h).symm
  · replace h := iteF h hc
    refine zz_aload_n C 2 ddM_items_10 rfl rfl ?_
    refine zz_iload_n C 3 ddM_items_11 rfl rfl ?_
    refine zz_iload C 5 ddM_items_12 rfl ?_
    refine zz_iadd C ddM_items_14 ?_
    refine zz_iload_n C 1 ddM_items_15 rfl rfl ?_
    refine zz_iload C 5 ddM_items_16 rfl ?_
    obtain ⟨q1, hq1, h⟩ := bindN h
    refine zz_callS0 (As := [.int v1, .int v5]) C ddM_items_18 wd_1300 my_M_usual mv_M_usual (xM_usual hG (d - 1) (by omega) hq1) (by omega) rfl rfl (Nat.le_of_ble_eq_true rfl) ?_
    obtain ⟨h2, h⟩ := gdN h
    refine zz_iastore C ddM_items_21 h2 ?_
    refine zz_iinc (v := v5 + 1) (L1 := [(5, .int (v5 + 1)), (0, .ref v0), (1, .int v1), (2, .ref v2), (3, .int v3), (4, .int v4)]) C 5 ddM_items_22 rfl rfl N (by decide) rfl ?_
    refine zz_goto (tgt := 3) C ddM_items_25 rfl ?_
    refine zz_loc (L1 := [(0, .ref v0), (1, .int v1), (2, .ref v2), (3, .int v3), (4, .int v4), (5, .int (v5 + 1))]) [1, 2, 3, 4, 5, 0] rfl ?_
    exact hK _ _ h
set_option maxHeartbeats 2000000 in
theorem zLM_items_3 {G : GXM} {X : CxM} (hG : GokM G) (C : CoM G X cM_items "HomeFreedModel") (N : mLM X = 7) {d : Nat} (hD : dpM X = d) (hd : 3 ≤ d) {v0 : Nat} {v1 : Int32} {v2 : Nat} {v3 : Int32} {v4 : Int32} {q : (Mem)} : ∀ (f : Nat) (v5 : Int32) (M : Mem), LM_items_3 f v0 v1 v2 v3 v4 v5 M = some q → (hx0 : ∀ y : Mem, q = y → ZM G X 28 [(0, .ref v0), (1, .int v1), (2, .ref v2), (3, .int v3)] [] y 0 0) → ZM G X 3 [(0, .ref v0), (1, .int v1), (2, .ref v2), (3, .int v3), (4, .int v4), (5, .int v5)] [] M 0 0 := by
  intro f
  induction f with
  | zero => intro v5 M h; cases h
  | succ f ih =>
    intro v5 M h hx0
    exact zBM_items_3 hG C N hD hd (K := LM_items_3 f) (q := q) (fun v5 M h => ih v5 M h hx0) hx0 h
set_option maxHeartbeats 2000000 in
theorem xM_items {G : GXM} {l : Launch} (hG : GokM G) (d : Nat) (hd : 3 ≤ d) {v0 : Nat} {v1 : Int32} {v2 : Nat} {v3 : Int32} {v4 : Int32} {M : Mem} {q : Mem} (h : fM_items v0 v1 v2 v3 v4 M = some q) : ExM G l d 0 0 yM_items cM_items 7 none [.ref v0, .int v1, .ref v2, .int v3, .int v4] M none q := by
  refine ex_of hG (by decide +kernel) (Nat.le_of_ble_eq_true rfl) ?_
  intro X hl C E N hD hn
  show ZM G X 0 [(0, .ref v0), (1, .int v1), (2, .ref v2), (3, .int v3), (4, .int v4)] [] M 0 0
  unfold fM_items at h
  refine zz_iconst (v := 0) C ddM_items_0 (by decide) ?_
  refine zz_istore (L1 := [(5, .int 0), (0, .ref v0), (1, .int v1), (2, .ref v2), (3, .int v3), (4, .int v4)]) C ddM_items_1 N (by decide) rfl ?_
  refine zz_loc (L1 := [(0, .ref v0), (1, .int v1), (2, .ref v2), (3, .int v3), (4, .int v4), (5, .int 0)]) [1, 2, 3, 4, 5, 0] rfl ?_
  obtain ⟨q1, hq1, h⟩ := bindN h
  refine zLM_items_3 hG C N hD hd 1000000 _ _ hq1 ?_
  · intro y2 eq1; replace eq1 := eq1.symm; subst eq1
    refine zz_iconst (v := 0) C ddM_items_28 (by decide) ?_
    refine zz_istore (L1 := [(5, .int 0), (0, .ref v0), (1, .int v1), (2, .ref v2), (3, .int v3)]) C ddM_items_29 N (by decide) rfl ?_
    refine zz_iload_n C 2 ddM_items_31 rfl rfl ?_
    refine zz_aload_n C 1 ddM_items_32 rfl rfl ?_
    obtain ⟨h4, h⟩ := gdN h
    obtain ⟨q3, hq3, h⟩ := bindN h
    refine zz_callV0 (As := []) C ddM_items_33 wd_1303 my_M_ahead mv_M_ahead ⟨_, rfl, rfl⟩ (xM_ahead hG (d - 1) (by omega) hq3) (by omega) h4 rfl rfl (Nat.le_of_ble_eq_true rfl) ?_
    obtain ⟨q5, hq5, h⟩ := bindN h
    refine zz_callS0 (As := [.int v1, .int q3.1]) C ddM_items_36 wd_1315 my_M_itemOf mv_M_itemOf (xM_itemOf hG (d - 1) (by omega) hq5) (by omega) rfl rfl (Nat.le_of_ble_eq_true rfl) ?_
    refine zz_istore (L1 := [(6, .int q5.1), (5, .int 0), (0, .ref v0), (1, .int v1), (2, .ref v2), (3, .int v3)]) C ddM_items_39 N (by decide) rfl ?_
    refine zz_loc (L1 := [(0, .ref v0), (1, .int v1), (2, .ref v2), (3, .int v3), (5, .int 0), (6, .int q5.1)]) [2, 3, 4, 5, 1, 0] rfl ?_
    obtain ⟨q6, hq6, h⟩ := bindN h
    refine zLM_items_41 hG C N hD hd 1000000 _ _ _ hq6 ?_
    · intro y7 eq6; replace eq6 := eq6.symm; subst eq6
      exact zBM_items_142 hG C N hD hd E h
theorem ddM_isWhole_0 : decode cM_isWhole 0 = .ok (.aload_n 0, 1) := by decide +kernel
theorem ddM_isWhole_1 : decode cM_isWhole 1 = .ok (.getfield 116, 3) := by decide +kernel
theorem ddM_isWhole_4 : decode cM_isWhole 4 = .ok (.ifCond .le 7, 3) := by decide +kernel
theorem ddM_isWhole_7 : decode cM_isWhole 7 = .ok (.iconst 1, 1) := by decide +kernel
theorem ddM_isWhole_8 : decode cM_isWhole 8 = .ok (.goto 4, 3) := by decide +kernel
theorem ddM_isWhole_11 : decode cM_isWhole 11 = .ok (.iconst 0, 1) := by decide +kernel
theorem ddM_isWhole_12 : decode cM_isWhole 12 = .ok (.istore_n 1, 1) := by decide +kernel
theorem ddM_isWhole_13 : decode cM_isWhole 13 = .ok (.iconst 0, 1) := by decide +kernel
theorem ddM_isWhole_14 : decode cM_isWhole 14 = .ok (.istore_n 2, 1) := by decide +kernel
theorem ddM_isWhole_15 : decode cM_isWhole 15 = .ok (.iload_n 2, 1) := by decide +kernel
theorem ddM_isWhole_16 : decode cM_isWhole 16 = .ok (.aload_n 0, 1) := by decide +kernel
theorem ddM_isWhole_17 : decode cM_isWhole 17 = .ok (.getfield 116, 3) := by decide +kernel
theorem ddM_isWhole_20 : decode cM_isWhole 20 = .ok (.if_icmp .ge 55, 3) := by decide +kernel
theorem ddM_isWhole_23 : decode cM_isWhole 23 = .ok (.iload_n 1, 1) := by decide +kernel
theorem ddM_isWhole_24 : decode cM_isWhole 24 = .ok (.ifCond .eq 43, 3) := by decide +kernel
theorem ddM_isWhole_27 : decode cM_isWhole 27 = .ok (.aload_n 0, 1) := by decide +kernel
theorem ddM_isWhole_28 : decode cM_isWhole 28 = .ok (.getfield 16, 3) := by decide +kernel
theorem ddM_isWhole_31 : decode cM_isWhole 31 = .ok (.iload_n 2, 1) := by decide +kernel
theorem ddM_isWhole_32 : decode cM_isWhole 32 = .ok (.iaload, 1) := by decide +kernel
theorem ddM_isWhole_33 : decode cM_isWhole 33 = .ok (.aload_n 0, 1) := by decide +kernel
theorem ddM_isWhole_34 : decode cM_isWhole 34 = .ok (.getfield 13, 3) := by decide +kernel
theorem ddM_isWhole_37 : decode cM_isWhole 37 = .ok (.iconst 2, 1) := by decide +kernel
theorem ddM_isWhole_38 : decode cM_isWhole 38 = .ok (.iaload, 1) := by decide +kernel
theorem ddM_isWhole_39 : decode cM_isWhole 39 = .ok (.if_icmp .gt 28, 3) := by decide +kernel
theorem ddM_isWhole_42 : decode cM_isWhole 42 = .ok (.iload_n 2, 1) := by decide +kernel
theorem ddM_isWhole_43 : decode cM_isWhole 43 = .ok (.ifCond .eq 20, 3) := by decide +kernel
theorem ddM_isWhole_46 : decode cM_isWhole 46 = .ok (.aload_n 0, 1) := by decide +kernel
theorem ddM_isWhole_47 : decode cM_isWhole 47 = .ok (.getfield 16, 3) := by decide +kernel
theorem ddM_isWhole_50 : decode cM_isWhole 50 = .ok (.iload_n 2, 1) := by decide +kernel
theorem ddM_isWhole_51 : decode cM_isWhole 51 = .ok (.iaload, 1) := by decide +kernel
theorem ddM_isWhole_52 : decode cM_isWhole 52 = .ok (.aload_n 0, 1) := by decide +kernel
theorem ddM_isWhole_53 : decode cM_isWhole 53 = .ok (.getfield 16, 3) := by decide +kernel
theorem ddM_isWhole_56 : decode cM_isWhole 56 = .ok (.iload_n 2, 1) := by decide +kernel
theorem ddM_isWhole_57 : decode cM_isWhole 57 = .ok (.iconst 1, 1) := by decide +kernel
theorem ddM_isWhole_58 : decode cM_isWhole 58 = .ok (.isub, 1) := by decide +kernel
theorem ddM_isWhole_59 : decode cM_isWhole 59 = .ok (.iaload, 1) := by decide +kernel
theorem ddM_isWhole_60 : decode cM_isWhole 60 = .ok (.if_icmp .le 7, 3) := by decide +kernel
theorem ddM_isWhole_63 : decode cM_isWhole 63 = .ok (.iconst 1, 1) := by decide +kernel
theorem ddM_isWhole_64 : decode cM_isWhole 64 = .ok (.goto 4, 3) := by decide +kernel
theorem ddM_isWhole_67 : decode cM_isWhole 67 = .ok (.iconst 0, 1) := by decide +kernel
theorem ddM_isWhole_68 : decode cM_isWhole 68 = .ok (.istore_n 1, 1) := by decide +kernel
theorem ddM_isWhole_69 : decode cM_isWhole 69 = .ok (.iinc 2 1, 3) := by decide +kernel
theorem ddM_isWhole_72 : decode cM_isWhole 72 = .ok (.goto (-57), 3) := by decide +kernel
theorem ddM_isWhole_75 : decode cM_isWhole 75 = .ok (.iload_n 1, 1) := by decide +kernel
theorem ddM_isWhole_76 : decode cM_isWhole 76 = .ok (.ireturn, 1) := by decide +kernel
set_option maxHeartbeats 2000000 in
theorem zBM_isWhole_68 {G : GXM} {X : CxM} (hG : GokM G) (C : CoM G X cM_isWhole "HomeFreedModel") (N : mLM X = 3) {d : Nat} (hD : dpM X = d) (hd : 0 ≤ d) {v0 : Nat} {K : Nat → Int32 → Int32 → Mem → Option ((Int32 × Mem))} {q : (Int32 × Mem)} (hK : ∀ (v1 : Int32) (v2 : Int32) (M : Mem), K v0 v1 v2 M = some q → ZM G X 15 [(0, .ref v0), (1, .int v1), (2, .int v2)] [] M 0 0) (hr : ∀ r : Int32 × Mem, q =  r → EnM G X (some .boolean) (some (.int r.1)) r.2 0 0) {v2 : Int32} {w0 : Int32} {M : Mem} (h : BM_isWhole_68 K v0 v2 w0 M = some q) : ZM G X 68 [(0, .ref v0), (2, .int v2)] [.int w0] M 0 0 := by
  unfold BM_isWhole_68 at h
  refine zz_istore_n (L1 := [(1, .int w0), (0, .ref v0), (2, .int v2)]) C ddM_isWhole_68 rfl N (by decide) rfl ?_
  refine zz_iinc (v := v2 + 1) (L1 := [(2, .int (v2 + 1)), (1, .int w0), (0, .ref v0)]) C 2 ddM_isWhole_69 rfl rfl N (by decide) rfl ?_
  refine zz_goto (tgt := 15) C ddM_isWhole_72 rfl ?_
  refine zz_loc (L1 := [(0, .ref v0), (1, .int w0), (2, .int (v2 + 1))]) [2, 1, 0] rfl ?_
  exact hK _ _ _ h
set_option maxHeartbeats 2000000 in
theorem zBM_isWhole_67 {G : GXM} {X : CxM} (hG : GokM G) (C : CoM G X cM_isWhole "HomeFreedModel") (N : mLM X = 3) {d : Nat} (hD : dpM X = d) (hd : 0 ≤ d) {v0 : Nat} {K : Nat → Int32 → Int32 → Mem → Option ((Int32 × Mem))} {q : (Int32 × Mem)} (hK : ∀ (v1 : Int32) (v2 : Int32) (M : Mem), K v0 v1 v2 M = some q → ZM G X 15 [(0, .ref v0), (1, .int v1), (2, .int v2)] [] M 0 0) (hr : ∀ r : Int32 × Mem, q =  r → EnM G X (some .boolean) (some (.int r.1)) r.2 0 0) {v2 : Int32} {M : Mem} (h : BM_isWhole_67 K v0 v2 M = some q) : ZM G X 67 [(0, .ref v0), (2, .int v2)] [] M 0 0 := by
  unfold BM_isWhole_67 at h
  refine zz_iconst (v := 0) C ddM_isWhole_67 (by decide) ?_
  exact zBM_isWhole_68 hG C N hD hd hK hr h
set_option maxHeartbeats 2000000 in
theorem zBM_isWhole_63 {G : GXM} {X : CxM} (hG : GokM G) (C : CoM G X cM_isWhole "HomeFreedModel") (N : mLM X = 3) {d : Nat} (hD : dpM X = d) (hd : 0 ≤ d) {v0 : Nat} {K : Nat → Int32 → Int32 → Mem → Option ((Int32 × Mem))} {q : (Int32 × Mem)} (hK : ∀ (v1 : Int32) (v2 : Int32) (M : Mem), K v0 v1 v2 M = some q → ZM G X 15 [(0, .ref v0), (1, .int v1), (2, .int v2)] [] M 0 0) (hr : ∀ r : Int32 × Mem, q =  r → EnM G X (some .boolean) (some (.int r.1)) r.2 0 0) {v2 : Int32} {M : Mem} (h : BM_isWhole_63 K v0 v2 M = some q) : ZM G X 63 [(0, .ref v0), (2, .int v2)] [] M 0 0 := by
  unfold BM_isWhole_63 at h
  refine zz_iconst (v := 1) C ddM_isWhole_63 (by decide) ?_
  refine zz_goto (tgt := 68) C ddM_isWhole_64 rfl ?_
  exact zBM_isWhole_68 hG C N hD hd hK hr h
set_option maxHeartbeats 2000000 in
theorem zBM_isWhole_15 {G : GXM} {X : CxM} (hG : GokM G) (C : CoM G X cM_isWhole "HomeFreedModel") (N : mLM X = 3) {d : Nat} (hD : dpM X = d) (hd : 0 ≤ d) {v0 : Nat} {K : Nat → Int32 → Int32 → Mem → Option ((Int32 × Mem))} {q : (Int32 × Mem)} (hK : ∀ (v1 : Int32) (v2 : Int32) (M : Mem), K v0 v1 v2 M = some q → ZM G X 15 [(0, .ref v0), (1, .int v1), (2, .int v2)] [] M 0 0) (hr : ∀ r : Int32 × Mem, q =  r → EnM G X (some .boolean) (some (.int r.1)) r.2 0 0) {v1 : Int32} {v2 : Int32} {M : Mem} (h : BM_isWhole_15 K v0 v1 v2 M = some q) : ZM G X 15 [(0, .ref v0), (1, .int v1), (2, .int v2)] [] M 0 0 := by
  unfold BM_isWhole_15 at h
  refine zz_iload_n C 2 ddM_isWhole_15 rfl rfl ?_
  refine zz_aload_n C 0 ddM_isWhole_16 rfl rfl ?_
  obtain ⟨h1, h⟩ := gdN h
  refine zz_geti C ddM_isWhole_17 fl_M_116 rfl h1 ?_
  refine zz_icmp_ge (tgt := 75) C ddM_isWhole_20 rfl (fun hc => ?_) (fun hc => ?_)
  · replace h := iteT h hc
    refine zz_iload_n C 1 ddM_isWhole_75 rfl rfl ?_
    obtain ⟨h2, h⟩ := gdN h
    exact zz_zret C (of_decide_eq_true h2) (hr _ (Option.some.inj h).symm) ddM_isWhole_76
  · replace h := iteF h hc
    refine zz_iload_n C 1 ddM_isWhole_23 rfl rfl ?_
    refine zz_if_eq (tgt := 67) C ddM_isWhole_24 rfl (fun hc => ?_) (fun hc => ?_)
    · replace h := iteT h hc
      refine zz_loc (L1 := [(0, .ref v0), (2, .int v2)]) [0, 2] rfl ?_
      exact zBM_isWhole_67 hG C N hD hd hK hr h
    · replace h := iteF h hc
      refine zz_aload_n C 0 ddM_isWhole_27 rfl rfl ?_
      obtain ⟨h3, h⟩ := gdN h
      refine zz_getr C ddM_isWhole_28 fl_M_16 rfl h1 (of_decide_eq_true h3) ?_
      refine zz_iload_n C 2 ddM_isWhole_31 rfl rfl ?_
      obtain ⟨h4, h⟩ := gdN h
      refine zz_iaload C ddM_isWhole_32 h4 ?_
      refine zz_aload_n C 0 ddM_isWhole_33 rfl rfl ?_
      obtain ⟨h5, h⟩ := gdN h
      refine zz_getr C ddM_isWhole_34 fl_M_13 rfl h1 (of_decide_eq_true h5) ?_
      refine zz_iconst (v := 2) C ddM_isWhole_37 (by decide) ?_
      obtain ⟨h6, h⟩ := gdN h
      refine zz_iaload C ddM_isWhole_38 h6 ?_
      refine zz_icmp_gt (tgt := 67) C ddM_isWhole_39 rfl (fun hc => ?_) (fun hc => ?_)
      · replace h := iteT h hc
        refine zz_loc (L1 := [(0, .ref v0), (2, .int v2)]) [0, 2] rfl ?_
        exact zBM_isWhole_67 hG C N hD hd hK hr h
      · replace h := iteF h hc
        refine zz_iload_n C 2 ddM_isWhole_42 rfl rfl ?_
        refine zz_if_eq (tgt := 63) C ddM_isWhole_43 rfl (fun hc => ?_) (fun hc => ?_)
        · replace h := iteT h hc
          refine zz_loc (L1 := [(0, .ref v0), (2, .int v2)]) [0, 2] rfl ?_
          exact zBM_isWhole_63 hG C N hD hd hK hr h
        · replace h := iteF h hc
          refine zz_aload_n C 0 ddM_isWhole_46 rfl rfl ?_
          refine zz_getr C ddM_isWhole_47 fl_M_16 rfl h1 (of_decide_eq_true h3) ?_
          refine zz_iload_n C 2 ddM_isWhole_50 rfl rfl ?_
          refine zz_iaload C ddM_isWhole_51 h4 ?_
          refine zz_aload_n C 0 ddM_isWhole_52 rfl rfl ?_
          refine zz_getr C ddM_isWhole_53 fl_M_16 rfl h1 (of_decide_eq_true h3) ?_
          refine zz_iload_n C 2 ddM_isWhole_56 rfl rfl ?_
          refine zz_iconst (v := 1) C ddM_isWhole_57 (by decide) ?_
          refine zz_isub C ddM_isWhole_58 ?_
          obtain ⟨h7, h⟩ := gdN h
          refine zz_iaload C ddM_isWhole_59 h7 ?_
          refine zz_icmp_le (tgt := 67) C ddM_isWhole_60 rfl (fun hc => ?_) (fun hc => ?_)
          · replace h := iteT h hc
            refine zz_loc (L1 := [(0, .ref v0), (2, .int v2)]) [0, 2] rfl ?_
            exact zBM_isWhole_67 hG C N hD hd hK hr h
          · replace h := iteF h hc
            refine zz_loc (L1 := [(0, .ref v0), (2, .int v2)]) [0, 2] rfl ?_
            exact zBM_isWhole_63 hG C N hD hd hK hr h
set_option maxHeartbeats 2000000 in
theorem zLM_isWhole_15 {G : GXM} {X : CxM} (hG : GokM G) (C : CoM G X cM_isWhole "HomeFreedModel") (N : mLM X = 3) {d : Nat} (hD : dpM X = d) (hd : 0 ≤ d) {v0 : Nat} {q : (Int32 × Mem)} : ∀ (f : Nat) (v1 : Int32) (v2 : Int32) (M : Mem), LM_isWhole_15 f v0 v1 v2 M = some q → (hr : ∀ r : Int32 × Mem, q =  r → EnM G X (some .boolean) (some (.int r.1)) r.2 0 0) → ZM G X 15 [(0, .ref v0), (1, .int v1), (2, .int v2)] [] M 0 0 := by
  intro f
  induction f with
  | zero => intro v1 v2 M h; cases h
  | succ f ih =>
    intro v1 v2 M h hr
    exact zBM_isWhole_15 hG C N hD hd (K := LM_isWhole_15 f) (q := q) (fun v1 v2 M h => ih v1 v2 M h hr) hr h
set_option maxHeartbeats 2000000 in
theorem zBM_isWhole_12 {G : GXM} {X : CxM} (hG : GokM G) (C : CoM G X cM_isWhole "HomeFreedModel") (N : mLM X = 3) {d : Nat} (hD : dpM X = d) (hd : 0 ≤ d)  {q : Int32 × Mem} (E : EnM G X (some .boolean) (some (.int q.1)) q.2 0 0) {v0 : Nat} {w0 : Int32} {M : Mem} (h : BM_isWhole_12 v0 w0 M = some q) : ZM G X 12 [(0, .ref v0)] [.int w0] M 0 0 := by
  unfold BM_isWhole_12 at h
  refine zz_istore_n (L1 := [(1, .int w0), (0, .ref v0)]) C ddM_isWhole_12 rfl N (by decide) rfl ?_
  refine zz_iconst (v := 0) C ddM_isWhole_13 (by decide) ?_
  refine zz_istore_n (L1 := [(2, .int 0), (1, .int w0), (0, .ref v0)]) C ddM_isWhole_14 rfl N (by decide) rfl ?_
  refine zz_loc (L1 := [(0, .ref v0), (1, .int w0), (2, .int 0)]) [2, 1, 0] rfl ?_
  obtain ⟨q1, hq1, h⟩ := bindN h
  refine zLM_isWhole_15 hG C N hD hd 1000000 _ _ _ hq1 ?_
  · intro r2 eq1; replace eq1 := eq1.symm; subst eq1
    obtain rfl := Option.some.inj h
    exact E
set_option maxHeartbeats 2000000 in
theorem xM_isWhole {G : GXM} {l : Launch} (hG : GokM G) (d : Nat) (hd : 0 ≤ d) {v0 : Nat} {M : Mem} {q : Int32 × Mem} (h : fM_isWhole v0 M = some q) : ExM G l d 0 0 yM_isWhole cM_isWhole 3 (some .boolean) [.ref v0] M (some (.int q.1)) q.2 := by
  refine ex_of hG (by decide +kernel) (Nat.le_of_ble_eq_true rfl) ?_
  intro X hl C E N hD hn
  show ZM G X 0 [(0, .ref v0)] [] M 0 0
  unfold fM_isWhole at h
  refine zz_aload_n C 0 ddM_isWhole_0 rfl rfl ?_
  obtain ⟨h1, h⟩ := gdN h
  refine zz_geti C ddM_isWhole_1 fl_M_116 rfl h1 ?_
  refine zz_if_le (tgt := 11) C ddM_isWhole_4 rfl (fun hc => ?_) (fun hc => ?_)
  · replace h := iteT h hc
    refine zz_iconst (v := 0) C ddM_isWhole_11 (by decide) ?_
    exact zBM_isWhole_12 hG C N hD hd E h
  · replace h := iteF h hc
    refine zz_iconst (v := 1) C ddM_isWhole_7 (by decide) ?_
    refine zz_goto (tgt := 12) C ddM_isWhole_8 rfl ?_
    exact zBM_isWhole_12 hG C N hD hd E h
theorem ddM_readArena_0 : decode cM_readArena 0 = .ok (.aload_n 0, 1) := by decide +kernel
theorem ddM_readArena_1 : decode cM_readArena 1 = .ok (.iconst 0, 1) := by decide +kernel
theorem ddM_readArena_2 : decode cM_readArena 2 = .ok (.putfield 79, 3) := by decide +kernel
theorem ddM_readArena_5 : decode cM_readArena 5 = .ok (.aload_n 0, 1) := by decide +kernel
theorem ddM_readArena_6 : decode cM_readArena 6 = .ok (.iconst (-1), 1) := by decide +kernel
theorem ddM_readArena_7 : decode cM_readArena 7 = .ok (.putfield 86, 3) := by decide +kernel
theorem ddM_readArena_10 : decode cM_readArena 10 = .ok (.aload_n 0, 1) := by decide +kernel
theorem ddM_readArena_11 : decode cM_readArena 11 = .ok (.iconst 0, 1) := by decide +kernel
theorem ddM_readArena_12 : decode cM_readArena 12 = .ok (.putfield 116, 3) := by decide +kernel
theorem ddM_readArena_15 : decode cM_readArena 15 = .ok (.iconst 0, 1) := by decide +kernel
theorem ddM_readArena_16 : decode cM_readArena 16 = .ok (.istore_n 1, 1) := by decide +kernel
theorem ddM_readArena_17 : decode cM_readArena 17 = .ok (.iconst 0, 1) := by decide +kernel
theorem ddM_readArena_18 : decode cM_readArena 18 = .ok (.istore_n 2, 1) := by decide +kernel
theorem ddM_readArena_19 : decode cM_readArena 19 = .ok (.iload_n 2, 1) := by decide +kernel
theorem ddM_readArena_20 : decode cM_readArena 20 = .ok (.iconst 5, 1) := by decide +kernel
theorem ddM_readArena_21 : decode cM_readArena 21 = .ok (.if_icmp .ge 21, 3) := by decide +kernel
theorem ddM_readArena_24 : decode cM_readArena 24 = .ok (.aload_n 0, 1) := by decide +kernel
theorem ddM_readArena_25 : decode cM_readArena 25 = .ok (.getfield 13, 3) := by decide +kernel
theorem ddM_readArena_28 : decode cM_readArena 28 = .ok (.iload_n 2, 1) := by decide +kernel
theorem ddM_readArena_29 : decode cM_readArena 29 = .ok (.bipush 115, 2) := by decide +kernel
theorem ddM_readArena_31 : decode cM_readArena 31 = .ok (.iload_n 2, 1) := by decide +kernel
theorem ddM_readArena_32 : decode cM_readArena 32 = .ok (.invokestatic 99, 3) := by decide +kernel
theorem ddM_readArena_35 : decode cM_readArena 35 = .ok (.iastore, 1) := by decide +kernel
theorem ddM_readArena_36 : decode cM_readArena 36 = .ok (.iinc 2 1, 3) := by decide +kernel
theorem ddM_readArena_39 : decode cM_readArena 39 = .ok (.goto (-20), 3) := by decide +kernel
theorem ddM_readArena_42 : decode cM_readArena 42 = .ok (.iconst 1, 1) := by decide +kernel
theorem ddM_readArena_43 : decode cM_readArena 43 = .ok (.istore_n 2, 1) := by decide +kernel
theorem ddM_readArena_44 : decode cM_readArena 44 = .ok (.iload_n 2, 1) := by decide +kernel
theorem ddM_readArena_45 : decode cM_readArena 45 = .ok (.ifCond .eq 152, 3) := by decide +kernel
theorem ddM_readArena_48 : decode cM_readArena 48 = .ok (.aload_n 0, 1) := by decide +kernel
theorem ddM_readArena_49 : decode cM_readArena 49 = .ok (.getfield 86, 3) := by decide +kernel
theorem ddM_readArena_52 : decode cM_readArena 52 = .ok (.iconst (-1), 1) := by decide +kernel
theorem ddM_readArena_53 : decode cM_readArena 53 = .ok (.if_icmp .ne 144, 3) := by decide +kernel
theorem ddM_readArena_56 : decode cM_readArena 56 = .ok (.aload_n 0, 1) := by decide +kernel
theorem ddM_readArena_57 : decode cM_readArena 57 = .ok (.invokevirtual 89, 3) := by decide +kernel
theorem ddM_readArena_60 : decode cM_readArena 60 = .ok (.istore_n 3, 1) := by decide +kernel
theorem ddM_readArena_61 : decode cM_readArena 61 = .ok (.iload_n 3, 1) := by decide +kernel
theorem ddM_readArena_62 : decode cM_readArena 62 = .ok (.bipush 115, 2) := by decide +kernel
theorem ddM_readArena_64 : decode cM_readArena 64 = .ok (.if_icmp .ne 33, 3) := by decide +kernel
theorem ddM_readArena_67 : decode cM_readArena 67 = .ok (.iload_n 1, 1) := by decide +kernel
theorem ddM_readArena_68 : decode cM_readArena 68 = .ok (.ifCond .ne 29, 3) := by decide +kernel
theorem ddM_readArena_71 : decode cM_readArena 71 = .ok (.iconst 1, 1) := by decide +kernel
theorem ddM_readArena_72 : decode cM_readArena 72 = .ok (.istore_n 1, 1) := by decide +kernel
theorem ddM_readArena_73 : decode cM_readArena 73 = .ok (.aload_n 0, 1) := by decide +kernel
theorem ddM_readArena_74 : decode cM_readArena 74 = .ok (.dup, 1) := by decide +kernel
theorem ddM_readArena_75 : decode cM_readArena 75 = .ok (.getfield 79, 3) := by decide +kernel
theorem ddM_readArena_78 : decode cM_readArena 78 = .ok (.iconst 1, 1) := by decide +kernel
theorem ddM_readArena_79 : decode cM_readArena 79 = .ok (.iadd, 1) := by decide +kernel
theorem ddM_readArena_80 : decode cM_readArena 80 = .ok (.putfield 79, 3) := by decide +kernel
theorem ddM_readArena_83 : decode cM_readArena 83 = .ok (.aload_n 0, 1) := by decide +kernel
theorem ddM_readArena_84 : decode cM_readArena 84 = .ok (.iload_n 3, 1) := by decide +kernel
theorem ddM_readArena_85 : decode cM_readArena 85 = .ok (.aload_n 0, 1) := by decide +kernel
theorem ddM_readArena_86 : decode cM_readArena 86 = .ok (.getfield 13, 3) := by decide +kernel
theorem ddM_readArena_89 : decode cM_readArena 89 = .ok (.iconst 0, 1) := by decide +kernel
theorem ddM_readArena_90 : decode cM_readArena 90 = .ok (.iconst 5, 1) := by decide +kernel
theorem ddM_readArena_91 : decode cM_readArena 91 = .ok (.invokevirtual 119, 3) := by decide +kernel
theorem ddM_readArena_94 : decode cM_readArena 94 = .ok (.goto 59, 3) := by decide +kernel
theorem ddM_readArena_97 : decode cM_readArena 97 = .ok (.iload_n 3, 1) := by decide +kernel
theorem ddM_readArena_98 : decode cM_readArena 98 = .ok (.bipush 99, 2) := by decide +kernel
theorem ddM_readArena_100 : decode cM_readArena 100 = .ok (.if_icmp .ne 49, 3) := by decide +kernel
theorem ddM_readArena_103 : decode cM_readArena 103 = .ok (.aload_n 0, 1) := by decide +kernel
theorem ddM_readArena_104 : decode cM_readArena 104 = .ok (.getfield 116, 3) := by decide +kernel
theorem ddM_readArena_107 : decode cM_readArena 107 = .ok (.bipush 6, 2) := by decide +kernel
theorem ddM_readArena_109 : decode cM_readArena 109 = .ok (.if_icmp .ge 40, 3) := by decide +kernel
theorem ddM_readArena_112 : decode cM_readArena 112 = .ok (.aload_n 0, 1) := by decide +kernel
theorem ddM_readArena_113 : decode cM_readArena 113 = .ok (.dup, 1) := by decide +kernel
theorem ddM_readArena_114 : decode cM_readArena 114 = .ok (.getfield 79, 3) := by decide +kernel
theorem ddM_readArena_117 : decode cM_readArena 117 = .ok (.iconst 1, 1) := by decide +kernel
theorem ddM_readArena_118 : decode cM_readArena 118 = .ok (.iadd, 1) := by decide +kernel
theorem ddM_readArena_119 : decode cM_readArena 119 = .ok (.putfield 79, 3) := by decide +kernel
theorem ddM_readArena_122 : decode cM_readArena 122 = .ok (.aload_n 0, 1) := by decide +kernel
theorem ddM_readArena_123 : decode cM_readArena 123 = .ok (.iload_n 3, 1) := by decide +kernel
theorem ddM_readArena_124 : decode cM_readArena 124 = .ok (.aload_n 0, 1) := by decide +kernel
theorem ddM_readArena_125 : decode cM_readArena 125 = .ok (.getfield 16, 3) := by decide +kernel
theorem ddM_readArena_128 : decode cM_readArena 128 = .ok (.aload_n 0, 1) := by decide +kernel
theorem ddM_readArena_129 : decode cM_readArena 129 = .ok (.getfield 116, 3) := by decide +kernel
theorem ddM_readArena_132 : decode cM_readArena 132 = .ok (.iconst 1, 1) := by decide +kernel
theorem ddM_readArena_133 : decode cM_readArena 133 = .ok (.invokevirtual 119, 3) := by decide +kernel
theorem ddM_readArena_136 : decode cM_readArena 136 = .ok (.aload_n 0, 1) := by decide +kernel
theorem ddM_readArena_137 : decode cM_readArena 137 = .ok (.dup, 1) := by decide +kernel
theorem ddM_readArena_138 : decode cM_readArena 138 = .ok (.getfield 116, 3) := by decide +kernel
theorem ddM_readArena_141 : decode cM_readArena 141 = .ok (.iconst 1, 1) := by decide +kernel
theorem ddM_readArena_142 : decode cM_readArena 142 = .ok (.iadd, 1) := by decide +kernel
theorem ddM_readArena_143 : decode cM_readArena 143 = .ok (.putfield 116, 3) := by decide +kernel
theorem ddM_readArena_146 : decode cM_readArena 146 = .ok (.goto 7, 3) := by decide +kernel
theorem ddM_readArena_149 : decode cM_readArena 149 = .ok (.aload_n 0, 1) := by decide +kernel
theorem ddM_readArena_150 : decode cM_readArena 150 = .ok (.invokevirtual 96, 3) := by decide +kernel
theorem ddM_readArena_153 : decode cM_readArena 153 = .ok (.aload_n 0, 1) := by decide +kernel
theorem ddM_readArena_154 : decode cM_readArena 154 = .ok (.getfield 86, 3) := by decide +kernel
theorem ddM_readArena_157 : decode cM_readArena 157 = .ok (.iconst (-1), 1) := by decide +kernel
theorem ddM_readArena_158 : decode cM_readArena 158 = .ok (.if_icmp .ne 16, 3) := by decide +kernel
theorem ddM_readArena_161 : decode cM_readArena 161 = .ok (.aload_n 0, 1) := by decide +kernel
theorem ddM_readArena_162 : decode cM_readArena 162 = .ok (.invokevirtual 89, 3) := by decide +kernel
theorem ddM_readArena_165 : decode cM_readArena 165 = .ok (.bipush 59, 2) := by decide +kernel
theorem ddM_readArena_167 : decode cM_readArena 167 = .ok (.if_icmp .ne 7, 3) := by decide +kernel
theorem ddM_readArena_170 : decode cM_readArena 170 = .ok (.iconst 1, 1) := by decide +kernel
theorem ddM_readArena_171 : decode cM_readArena 171 = .ok (.goto 4, 3) := by decide +kernel
theorem ddM_readArena_174 : decode cM_readArena 174 = .ok (.iconst 0, 1) := by decide +kernel
theorem ddM_readArena_175 : decode cM_readArena 175 = .ok (.istore_n 2, 1) := by decide +kernel
theorem ddM_readArena_176 : decode cM_readArena 176 = .ok (.aload_n 0, 1) := by decide +kernel
theorem ddM_readArena_177 : decode cM_readArena 177 = .ok (.dup, 1) := by decide +kernel
theorem ddM_readArena_178 : decode cM_readArena 178 = .ok (.getfield 79, 3) := by decide +kernel
theorem ddM_readArena_181 : decode cM_readArena 181 = .ok (.iload_n 2, 1) := by decide +kernel
theorem ddM_readArena_182 : decode cM_readArena 182 = .ok (.ifCond .eq 7, 3) := by decide +kernel
theorem ddM_readArena_185 : decode cM_readArena 185 = .ok (.iconst 1, 1) := by decide +kernel
theorem ddM_readArena_186 : decode cM_readArena 186 = .ok (.goto 4, 3) := by decide +kernel
theorem ddM_readArena_189 : decode cM_readArena 189 = .ok (.iconst 0, 1) := by decide +kernel
theorem ddM_readArena_190 : decode cM_readArena 190 = .ok (.iadd, 1) := by decide +kernel
theorem ddM_readArena_191 : decode cM_readArena 191 = .ok (.putfield 79, 3) := by decide +kernel
theorem ddM_readArena_194 : decode cM_readArena 194 = .ok (.goto (-150), 3) := by decide +kernel
theorem ddM_readArena_197 : decode cM_readArena 197 = .ok (.aload_n 0, 1) := by decide +kernel
theorem ddM_readArena_198 : decode cM_readArena 198 = .ok (.getfield 86, 3) := by decide +kernel
theorem ddM_readArena_201 : decode cM_readArena 201 = .ok (.iconst (-1), 1) := by decide +kernel
theorem ddM_readArena_202 : decode cM_readArena 202 = .ok (.if_icmp .ne 22, 3) := by decide +kernel
theorem ddM_readArena_205 : decode cM_readArena 205 = .ok (.aload_n 0, 1) := by decide +kernel
theorem ddM_readArena_206 : decode cM_readArena 206 = .ok (.invokevirtual 89, 3) := by decide +kernel
theorem ddM_readArena_209 : decode cM_readArena 209 = .ok (.iconst (-1), 1) := by decide +kernel
theorem ddM_readArena_210 : decode cM_readArena 210 = .ok (.if_icmp .ne 10, 3) := by decide +kernel
theorem ddM_readArena_213 : decode cM_readArena 213 = .ok (.aload_n 0, 1) := by decide +kernel
theorem ddM_readArena_214 : decode cM_readArena 214 = .ok (.invokevirtual 123, 3) := by decide +kernel
theorem ddM_readArena_217 : decode cM_readArena 217 = .ok (.ifCond .ne 7, 3) := by decide +kernel
theorem ddM_readArena_220 : decode cM_readArena 220 = .ok (.aload_n 0, 1) := by decide +kernel
theorem ddM_readArena_221 : decode cM_readArena 221 = .ok (.invokevirtual 96, 3) := by decide +kernel
theorem ddM_readArena_224 : decode cM_readArena 224 = .ok (.aload_n 0, 1) := by decide +kernel
theorem ddM_readArena_225 : decode cM_readArena 225 = .ok (.getfield 86, 3) := by decide +kernel
theorem ddM_readArena_228 : decode cM_readArena 228 = .ok (.ireturn, 1) := by decide +kernel
set_option maxHeartbeats 2000000 in
theorem zBM_readArena_224 {G : GXM} {X : CxM} (hG : GokM G) (C : CoM G X cM_readArena "HomeFreedModel") (N : mLM X = 4) {d : Nat} (hD : dpM X = d) (hd : 4 ≤ d)  {q : Int32 × Mem} (E : EnM G X (some .int) (some (.int q.1)) q.2 0 0) {v0 : Nat} {M : Mem} (h : BM_readArena_224 v0 M = some q) : ZM G X 224 [(0, .ref v0)] [] M 0 0 := by
  unfold BM_readArena_224 at h
  refine zz_aload_n C 0 ddM_readArena_224 rfl rfl ?_
  obtain ⟨h1, h⟩ := gdN h
  refine zz_geti C ddM_readArena_225 fl_M_86 rfl h1 ?_
  obtain rfl := Option.some.inj h
  exact zz_iret C E ddM_readArena_228
set_option maxHeartbeats 2000000 in
theorem zBM_readArena_220 {G : GXM} {X : CxM} (hG : GokM G) (C : CoM G X cM_readArena "HomeFreedModel") (N : mLM X = 4) {d : Nat} (hD : dpM X = d) (hd : 4 ≤ d)  {q : Int32 × Mem} (E : EnM G X (some .int) (some (.int q.1)) q.2 0 0) {v0 : Nat} {M : Mem} (h : BM_readArena_220 v0 M = some q) : ZM G X 220 [(0, .ref v0)] [] M 0 0 := by
  unfold BM_readArena_220 at h
  refine zz_aload_n C 0 ddM_readArena_220 rfl rfl ?_
  obtain ⟨h2, h⟩ := gdN h
  obtain ⟨q1, hq1, h⟩ := bindN h
  refine zz_callV0 (As := []) C ddM_readArena_221 wd_1331 my_M_bad mv_M_bad ⟨_, rfl, rfl⟩ (xM_bad hG (d - 1) (by omega) hq1) (by omega) h2 rfl rfl (Nat.le_of_ble_eq_true rfl) ?_
  exact zBM_readArena_224 hG C N hD hd E h
set_option maxHeartbeats 2000000 in
theorem zBM_readArena_197 {G : GXM} {X : CxM} (hG : GokM G) (C : CoM G X cM_readArena "HomeFreedModel") (N : mLM X = 4) {d : Nat} (hD : dpM X = d) (hd : 4 ≤ d)  {q : Int32 × Mem} (E : EnM G X (some .int) (some (.int q.1)) q.2 0 0) {v0 : Nat} {M : Mem} (h : BM_readArena_197 v0 M = some q) : ZM G X 197 [(0, .ref v0)] [] M 0 0 := by
  unfold BM_readArena_197 at h
  refine zz_aload_n C 0 ddM_readArena_197 rfl rfl ?_
  obtain ⟨h1, h⟩ := gdN h
  refine zz_geti C ddM_readArena_198 fl_M_86 rfl h1 ?_
  refine zz_iconst (v := (-1)) C ddM_readArena_201 (by decide) ?_
  refine zz_icmp_ne (tgt := 224) C ddM_readArena_202 rfl (fun hc => ?_) (fun hc => ?_)
  · replace h := iteF h hc
    exact zBM_readArena_224 hG C N hD hd E h
  · replace h := iteT h hc
    refine zz_aload_n C 0 ddM_readArena_205 rfl rfl ?_
    obtain ⟨q2, hq2, h⟩ := bindN h
    refine zz_callV0 (As := []) C ddM_readArena_206 wd_1303 my_M_ahead mv_M_ahead ⟨_, rfl, rfl⟩ (xM_ahead hG (d - 1) (by omega) hq2) (by omega) h1 rfl rfl (Nat.le_of_ble_eq_true rfl) ?_
    refine zz_iconst (v := (-1)) C ddM_readArena_209 (by decide) ?_
    refine zz_icmp_ne (tgt := 220) C ddM_readArena_210 rfl (fun hc => ?_) (fun hc => ?_)
    · replace h := iteF h hc
      exact zBM_readArena_220 hG C N hD hd E h
    · replace h := iteT h hc
      refine zz_aload_n C 0 ddM_readArena_213 rfl rfl ?_
      obtain ⟨h4, h⟩ := gdN h
      obtain ⟨q3, hq3, h⟩ := bindN h
      refine zz_callV0 (As := []) C ddM_readArena_214 wd_1335 my_M_isWhole mv_M_isWhole ⟨_, rfl, rfl⟩ (xM_isWhole hG (d - 1) (by omega) hq3) (by omega) h4 rfl rfl (Nat.le_of_ble_eq_true rfl) ?_
      refine zz_if_ne (tgt := 224) C ddM_readArena_217 rfl (fun hc => ?_) (fun hc => ?_)
      · replace h := iteF h hc
        exact zBM_readArena_224 hG C N hD hd E h
      · replace h := iteT h hc
        exact zBM_readArena_220 hG C N hD hd E h
set_option maxHeartbeats 2000000 in
theorem zBM_readArena_190 {G : GXM} {X : CxM} (hG : GokM G) (C : CoM G X cM_readArena "HomeFreedModel") (N : mLM X = 4) {d : Nat} (hD : dpM X = d) (hd : 4 ≤ d) {v0 : Nat} {K : Nat → Int32 → Int32 → Mem → Option ((Mem))} {q : (Mem)} (hK : ∀ (v1 : Int32) (v2 : Int32) (M : Mem), K v0 v1 v2 M = some q → ZM G X 44 [(0, .ref v0), (1, .int v1), (2, .int v2)] [] M 0 0) (hx0 : ∀ y : Mem, q = y → ZM G X 197 [(0, .ref v0)] [] y 0 0) {v1 : Int32} {v2 : Int32} {w0 : Nat} {w1 : Int32} {w2 : Int32} {M : Mem} (h : BM_readArena_190 K v0 v1 v2 w0 w1 w2 M = some q) : ZM G X 190 [(0, .ref v0), (1, .int v1), (2, .int v2)] [.int w2, .int w1, .ref w0] M 0 0 := by
  unfold BM_readArena_190 at h
  refine zz_iadd C ddM_readArena_190 ?_
  obtain ⟨h1, h⟩ := gdN h
  refine zz_puti C ddM_readArena_191 fl_M_79 rfl rfl rfl h1 ?_
  refine zz_goto (tgt := 44) C ddM_readArena_194 rfl ?_
  exact hK _ _ _ h
set_option maxHeartbeats 2000000 in
theorem zBM_readArena_175 {G : GXM} {X : CxM} (hG : GokM G) (C : CoM G X cM_readArena "HomeFreedModel") (N : mLM X = 4) {d : Nat} (hD : dpM X = d) (hd : 4 ≤ d) {v0 : Nat} {K : Nat → Int32 → Int32 → Mem → Option ((Mem))} {q : (Mem)} (hK : ∀ (v1 : Int32) (v2 : Int32) (M : Mem), K v0 v1 v2 M = some q → ZM G X 44 [(0, .ref v0), (1, .int v1), (2, .int v2)] [] M 0 0) (hx0 : ∀ y : Mem, q = y → ZM G X 197 [(0, .ref v0)] [] y 0 0) {v1 : Int32} {w0 : Int32} {M : Mem} (h : BM_readArena_175 K v0 v1 w0 M = some q) : ZM G X 175 [(0, .ref v0), (1, .int v1)] [.int w0] M 0 0 := by
  unfold BM_readArena_175 at h
  refine zz_istore_n (L1 := [(2, .int w0), (0, .ref v0), (1, .int v1)]) C ddM_readArena_175 rfl N (by decide) rfl ?_
  refine zz_aload_n C 1 ddM_readArena_176 rfl rfl ?_
  refine zz_dup C ddM_readArena_177 rfl ?_
  obtain ⟨h1, h⟩ := gdN h
  refine zz_geti C ddM_readArena_178 fl_M_79 rfl h1 ?_
  refine zz_iload_n C 0 ddM_readArena_181 rfl rfl ?_
  refine zz_if_eq (tgt := 189) C ddM_readArena_182 rfl (fun hc => ?_) (fun hc => ?_)
  · replace h := iteT h hc
    refine zz_iconst (v := 0) C ddM_readArena_189 (by decide) ?_
    refine zz_loc (L1 := [(0, .ref v0), (1, .int v1), (2, .int w0)]) [1, 2, 0] rfl ?_
    exact zBM_readArena_190 hG C N hD hd hK hx0 h
  · replace h := iteF h hc
    refine zz_iconst (v := 1) C ddM_readArena_185 (by decide) ?_
    refine zz_goto (tgt := 190) C ddM_readArena_186 rfl ?_
    refine zz_loc (L1 := [(0, .ref v0), (1, .int v1), (2, .int w0)]) [1, 2, 0] rfl ?_
    exact zBM_readArena_190 hG C N hD hd hK hx0 h
set_option maxHeartbeats 2000000 in
theorem zBM_readArena_174 {G : GXM} {X : CxM} (hG : GokM G) (C : CoM G X cM_readArena "HomeFreedModel") (N : mLM X = 4) {d : Nat} (hD : dpM X = d) (hd : 4 ≤ d) {v0 : Nat} {K : Nat → Int32 → Int32 → Mem → Option ((Mem))} {q : (Mem)} (hK : ∀ (v1 : Int32) (v2 : Int32) (M : Mem), K v0 v1 v2 M = some q → ZM G X 44 [(0, .ref v0), (1, .int v1), (2, .int v2)] [] M 0 0) (hx0 : ∀ y : Mem, q = y → ZM G X 197 [(0, .ref v0)] [] y 0 0) {v1 : Int32} {M : Mem} (h : BM_readArena_174 K v0 v1 M = some q) : ZM G X 174 [(0, .ref v0), (1, .int v1)] [] M 0 0 := by
  unfold BM_readArena_174 at h
  refine zz_iconst (v := 0) C ddM_readArena_174 (by decide) ?_
  exact zBM_readArena_175 hG C N hD hd hK hx0 h
set_option maxHeartbeats 2000000 in
theorem zBM_readArena_153 {G : GXM} {X : CxM} (hG : GokM G) (C : CoM G X cM_readArena "HomeFreedModel") (N : mLM X = 4) {d : Nat} (hD : dpM X = d) (hd : 4 ≤ d) {v0 : Nat} {K : Nat → Int32 → Int32 → Mem → Option ((Mem))} {q : (Mem)} (hK : ∀ (v1 : Int32) (v2 : Int32) (M : Mem), K v0 v1 v2 M = some q → ZM G X 44 [(0, .ref v0), (1, .int v1), (2, .int v2)] [] M 0 0) (hx0 : ∀ y : Mem, q = y → ZM G X 197 [(0, .ref v0)] [] y 0 0) {v1 : Int32} {M : Mem} (h : BM_readArena_153 K v0 v1 M = some q) : ZM G X 153 [(0, .ref v0), (1, .int v1)] [] M 0 0 := by
  unfold BM_readArena_153 at h
  refine zz_aload_n C 0 ddM_readArena_153 rfl rfl ?_
  obtain ⟨h1, h⟩ := gdN h
  refine zz_geti C ddM_readArena_154 fl_M_86 rfl h1 ?_
  refine zz_iconst (v := (-1)) C ddM_readArena_157 (by decide) ?_
  refine zz_icmp_ne (tgt := 174) C ddM_readArena_158 rfl (fun hc => ?_) (fun hc => ?_)
  · replace h := iteF h hc
    exact zBM_readArena_174 hG C N hD hd hK hx0 h
  · replace h := iteT h hc
    refine zz_aload_n C 0 ddM_readArena_161 rfl rfl ?_
    obtain ⟨q2, hq2, h⟩ := bindN h
    refine zz_callV0 (As := []) C ddM_readArena_162 wd_1303 my_M_ahead mv_M_ahead ⟨_, rfl, rfl⟩ (xM_ahead hG (d - 1) (by omega) hq2) (by omega) h1 rfl rfl (Nat.le_of_ble_eq_true rfl) ?_
    refine zz_bipush (v := 59) C ddM_readArena_165 (by decide) ?_
    refine zz_icmp_ne (tgt := 174) C ddM_readArena_167 rfl (fun hc => ?_) (fun hc => ?_)
    · replace h := iteF h hc
      exact zBM_readArena_174 hG C N hD hd hK hx0 h
    · replace h := iteT h hc
      refine zz_iconst (v := 1) C ddM_readArena_170 (by decide) ?_
      refine zz_goto (tgt := 175) C ddM_readArena_171 rfl ?_
      exact zBM_readArena_175 hG C N hD hd hK hx0 h
set_option maxHeartbeats 2000000 in
theorem zBM_readArena_149 {G : GXM} {X : CxM} (hG : GokM G) (C : CoM G X cM_readArena "HomeFreedModel") (N : mLM X = 4) {d : Nat} (hD : dpM X = d) (hd : 4 ≤ d) {v0 : Nat} {K : Nat → Int32 → Int32 → Mem → Option ((Mem))} {q : (Mem)} (hK : ∀ (v1 : Int32) (v2 : Int32) (M : Mem), K v0 v1 v2 M = some q → ZM G X 44 [(0, .ref v0), (1, .int v1), (2, .int v2)] [] M 0 0) (hx0 : ∀ y : Mem, q = y → ZM G X 197 [(0, .ref v0)] [] y 0 0) {v1 : Int32} {M : Mem} (h : BM_readArena_149 K v0 v1 M = some q) : ZM G X 149 [(0, .ref v0), (1, .int v1)] [] M 0 0 := by
  unfold BM_readArena_149 at h
  refine zz_aload_n C 0 ddM_readArena_149 rfl rfl ?_
  obtain ⟨h2, h⟩ := gdN h
  obtain ⟨q1, hq1, h⟩ := bindN h
  refine zz_callV0 (As := []) C ddM_readArena_150 wd_1331 my_M_bad mv_M_bad ⟨_, rfl, rfl⟩ (xM_bad hG (d - 1) (by omega) hq1) (by omega) h2 rfl rfl (Nat.le_of_ble_eq_true rfl) ?_
  exact zBM_readArena_153 hG C N hD hd hK hx0 h
set_option maxHeartbeats 2000000 in
theorem zBM_readArena_97 {G : GXM} {X : CxM} (hG : GokM G) (C : CoM G X cM_readArena "HomeFreedModel") (N : mLM X = 4) {d : Nat} (hD : dpM X = d) (hd : 4 ≤ d) {v0 : Nat} {K : Nat → Int32 → Int32 → Mem → Option ((Mem))} {q : (Mem)} (hK : ∀ (v1 : Int32) (v2 : Int32) (M : Mem), K v0 v1 v2 M = some q → ZM G X 44 [(0, .ref v0), (1, .int v1), (2, .int v2)] [] M 0 0) (hx0 : ∀ y : Mem, q = y → ZM G X 197 [(0, .ref v0)] [] y 0 0) {v1 : Int32} {v3 : Int32} {M : Mem} (h : BM_readArena_97 K v0 v1 v3 M = some q) : ZM G X 97 [(0, .ref v0), (1, .int v1), (3, .int v3)] [] M 0 0 := by
  unfold BM_readArena_97 at h
  refine zz_iload_n C 2 ddM_readArena_97 rfl rfl ?_
  refine zz_bipush (v := 99) C ddM_readArena_98 (by decide) ?_
  refine zz_icmp_ne (tgt := 149) C ddM_readArena_100 rfl (fun hc => ?_) (fun hc => ?_)
  · replace h := iteF h hc
    refine zz_loc (L1 := [(0, .ref v0), (1, .int v1)]) [0, 1] rfl ?_
    exact zBM_readArena_149 hG C N hD hd hK hx0 h
  · replace h := iteT h hc
    refine zz_aload_n C 0 ddM_readArena_103 rfl rfl ?_
    obtain ⟨h1, h⟩ := gdN h
    refine zz_geti C ddM_readArena_104 fl_M_116 rfl h1 ?_
    refine zz_bipush (v := 6) C ddM_readArena_107 (by decide) ?_
    refine zz_icmp_ge (tgt := 149) C ddM_readArena_109 rfl (fun hc => ?_) (fun hc => ?_)
    · replace h := iteT h hc
      refine zz_loc (L1 := [(0, .ref v0), (1, .int v1)]) [0, 1] rfl ?_
      exact zBM_readArena_149 hG C N hD hd hK hx0 h
    · replace h := iteF h hc
      refine zz_aload_n C 0 ddM_readArena_112 rfl rfl ?_
      refine zz_dup C ddM_readArena_113 rfl ?_
      refine zz_geti C ddM_readArena_114 fl_M_79 rfl h1 ?_
      refine zz_iconst (v := 1) C ddM_readArena_117 (by decide) ?_
      refine zz_iadd C ddM_readArena_118 ?_
      refine zz_puti C ddM_readArena_119 fl_M_79 rfl rfl rfl h1 ?_
      refine zz_aload_n C 0 ddM_readArena_122 rfl rfl ?_
      refine zz_iload_n C 2 ddM_readArena_123 rfl rfl ?_
      refine zz_aload_n C 0 ddM_readArena_124 rfl rfl ?_
      obtain ⟨h2, h⟩ := gdN h
      refine zz_getr C ddM_readArena_125 fl_M_16 rfl h1 (of_decide_eq_true h2) ?_
      refine zz_aload_n C 0 ddM_readArena_128 rfl rfl ?_
      refine zz_geti C ddM_readArena_129 fl_M_116 rfl h1 ?_
      refine zz_iconst (v := 1) C ddM_readArena_132 (by decide) ?_
      obtain ⟨q3, hq3, h⟩ := bindN h
      refine zz_callV0 (As := [.int v3, .ref (grM M v0 6), .int (giM (siM M v0 3 ((giM M v0 3) + 1)) v0 7), .int 1]) C ddM_readArena_133 wd_1311 my_M_items mv_M_items ⟨_, rfl, rfl⟩ (xM_items hG (d - 1) (by omega) hq3) (by omega) h1 rfl rfl (Nat.le_of_ble_eq_true rfl) ?_
      refine zz_aload_n C 0 ddM_readArena_136 rfl rfl ?_
      refine zz_dup C ddM_readArena_137 rfl ?_
      obtain ⟨h4, h⟩ := gdN h
      refine zz_geti C ddM_readArena_138 fl_M_116 rfl h4 ?_
      refine zz_iconst (v := 1) C ddM_readArena_141 (by decide) ?_
      refine zz_iadd C ddM_readArena_142 ?_
      refine zz_puti C ddM_readArena_143 fl_M_116 rfl rfl rfl h4 ?_
      refine zz_goto (tgt := 153) C ddM_readArena_146 rfl ?_
      refine zz_loc (L1 := [(0, .ref v0), (1, .int v1)]) [0, 1] rfl ?_
      exact zBM_readArena_153 hG C N hD hd hK hx0 h
set_option maxHeartbeats 2000000 in
theorem zBM_readArena_44 {G : GXM} {X : CxM} (hG : GokM G) (C : CoM G X cM_readArena "HomeFreedModel") (N : mLM X = 4) {d : Nat} (hD : dpM X = d) (hd : 4 ≤ d) {v0 : Nat} {K : Nat → Int32 → Int32 → Mem → Option ((Mem))} {q : (Mem)} (hK : ∀ (v1 : Int32) (v2 : Int32) (M : Mem), K v0 v1 v2 M = some q → ZM G X 44 [(0, .ref v0), (1, .int v1), (2, .int v2)] [] M 0 0) (hx0 : ∀ y : Mem, q = y → ZM G X 197 [(0, .ref v0)] [] y 0 0) {v1 : Int32} {v2 : Int32} {M : Mem} (h : BM_readArena_44 K v0 v1 v2 M = some q) : ZM G X 44 [(0, .ref v0), (1, .int v1), (2, .int v2)] [] M 0 0 := by
  unfold BM_readArena_44 at h
  refine zz_iload_n C 2 ddM_readArena_44 rfl rfl ?_
  refine zz_if_eq (tgt := 197) C ddM_readArena_45 rfl (fun hc => ?_) (fun hc => ?_)
  · replace h := iteT h hc
    refine zz_loc (L1 := [(0, .ref v0)]) [0] rfl ?_
    exact hx0 _ (Option.some.inj h).symm
  · replace h := iteF h hc
    refine zz_aload_n C 0 ddM_readArena_48 rfl rfl ?_
    obtain ⟨h1, h⟩ := gdN h
    refine zz_geti C ddM_readArena_49 fl_M_86 rfl h1 ?_
    refine zz_iconst (v := (-1)) C ddM_readArena_52 (by decide) ?_
    refine zz_icmp_ne (tgt := 197) C ddM_readArena_53 rfl (fun hc => ?_) (fun hc => ?_)
    · replace h := iteF h hc
      refine zz_loc (L1 := [(0, .ref v0)]) [0] rfl ?_
      exact hx0 _ (Option.some.inj h).symm
    · replace h := iteT h hc
      refine zz_aload_n C 0 ddM_readArena_56 rfl rfl ?_
      obtain ⟨q2, hq2, h⟩ := bindN h
      refine zz_callV0 (As := []) C ddM_readArena_57 wd_1303 my_M_ahead mv_M_ahead ⟨_, rfl, rfl⟩ (xM_ahead hG (d - 1) (by omega) hq2) (by omega) h1 rfl rfl (Nat.le_of_ble_eq_true rfl) ?_
      refine zz_istore_n (L1 := [(3, .int q2.1), (0, .ref v0), (1, .int v1), (2, .int v2)]) C ddM_readArena_60 rfl N (by decide) rfl ?_
      refine zz_iload_n C 0 ddM_readArena_61 rfl rfl ?_
      refine zz_bipush (v := 115) C ddM_readArena_62 (by decide) ?_
      refine zz_icmp_ne (tgt := 97) C ddM_readArena_64 rfl (fun hc => ?_) (fun hc => ?_)
      · replace h := iteF h hc
        refine zz_loc (L1 := [(0, .ref v0), (1, .int v1), (3, .int q2.1)]) [1, 2, 0] rfl ?_
        exact zBM_readArena_97 hG C N hD hd hK hx0 h
      · replace h := iteT h hc
        refine zz_iload_n C 2 ddM_readArena_67 rfl rfl ?_
        refine zz_if_ne (tgt := 97) C ddM_readArena_68 rfl (fun hc => ?_) (fun hc => ?_)
        · replace h := iteF h hc
          refine zz_loc (L1 := [(0, .ref v0), (1, .int v1), (3, .int q2.1)]) [1, 2, 0] rfl ?_
          exact zBM_readArena_97 hG C N hD hd hK hx0 h
        · replace h := iteT h hc
          refine zz_iconst (v := 1) C ddM_readArena_71 (by decide) ?_
          refine zz_istore_n (L1 := [(1, .int 1), (3, .int q2.1), (0, .ref v0), (2, .int v2)]) C ddM_readArena_72 rfl N (by decide) rfl ?_
          refine zz_aload_n C 2 ddM_readArena_73 rfl rfl ?_
          refine zz_dup C ddM_readArena_74 rfl ?_
          obtain ⟨h3, h⟩ := gdN h
          refine zz_geti C ddM_readArena_75 fl_M_79 rfl h3 ?_
          refine zz_iconst (v := 1) C ddM_readArena_78 (by decide) ?_
          refine zz_iadd C ddM_readArena_79 ?_
          refine zz_puti C ddM_readArena_80 fl_M_79 rfl rfl rfl h3 ?_
          refine zz_aload_n C 2 ddM_readArena_83 rfl rfl ?_
          refine zz_iload_n C 1 ddM_readArena_84 rfl rfl ?_
          refine zz_aload_n C 2 ddM_readArena_85 rfl rfl ?_
          obtain ⟨h4, h⟩ := gdN h
          refine zz_getr C ddM_readArena_86 fl_M_13 rfl h3 (of_decide_eq_true h4) ?_
          refine zz_iconst (v := 0) C ddM_readArena_89 (by decide) ?_
          refine zz_iconst (v := 5) C ddM_readArena_90 (by decide) ?_
          obtain ⟨q5, hq5, h⟩ := bindN h
          refine zz_callV0 (As := [.int q2.1, .ref (grM q2.2 v0 5), .int 0, .int 5]) C ddM_readArena_91 wd_1311 my_M_items mv_M_items ⟨_, rfl, rfl⟩ (xM_items hG (d - 1) (by omega) hq5) (by omega) h3 rfl rfl (Nat.le_of_ble_eq_true rfl) ?_
          refine zz_goto (tgt := 153) C ddM_readArena_94 rfl ?_
          refine zz_loc (L1 := [(0, .ref v0), (1, .int 1)]) [2, 0] rfl ?_
          exact zBM_readArena_153 hG C N hD hd hK hx0 h
set_option maxHeartbeats 2000000 in
theorem zLM_readArena_44 {G : GXM} {X : CxM} (hG : GokM G) (C : CoM G X cM_readArena "HomeFreedModel") (N : mLM X = 4) {d : Nat} (hD : dpM X = d) (hd : 4 ≤ d) {v0 : Nat} {q : (Mem)} : ∀ (f : Nat) (v1 : Int32) (v2 : Int32) (M : Mem), LM_readArena_44 f v0 v1 v2 M = some q → (hx0 : ∀ y : Mem, q = y → ZM G X 197 [(0, .ref v0)] [] y 0 0) → ZM G X 44 [(0, .ref v0), (1, .int v1), (2, .int v2)] [] M 0 0 := by
  intro f
  induction f with
  | zero => intro v1 v2 M h; cases h
  | succ f ih =>
    intro v1 v2 M h hx0
    exact zBM_readArena_44 hG C N hD hd (K := LM_readArena_44 f) (q := q) (fun v1 v2 M h => ih v1 v2 M h hx0) hx0 h
set_option maxHeartbeats 2000000 in
theorem zBM_readArena_19 {G : GXM} {X : CxM} (hG : GokM G) (C : CoM G X cM_readArena "HomeFreedModel") (N : mLM X = 4) {d : Nat} (hD : dpM X = d) (hd : 4 ≤ d) {v0 : Nat} {v1 : Int32} {K : Nat → Int32 → Int32 → Mem → Option ((Mem))} {q : (Mem)} (hK : ∀ (v2 : Int32) (M : Mem), K v0 v1 v2 M = some q → ZM G X 19 [(0, .ref v0), (1, .int v1), (2, .int v2)] [] M 0 0) (hx0 : ∀ y : Mem, q = y → ZM G X 42 [(0, .ref v0), (1, .int v1)] [] y 0 0) {v2 : Int32} {M : Mem} (h : BM_readArena_19 K v0 v1 v2 M = some q) : ZM G X 19 [(0, .ref v0), (1, .int v1), (2, .int v2)] [] M 0 0 := by
  unfold BM_readArena_19 at h
  refine zz_iload_n C 2 ddM_readArena_19 rfl rfl ?_
  refine zz_iconst (v := 5) C ddM_readArena_20 (by decide) ?_
  refine zz_icmp_ge (tgt := 42) C ddM_readArena_21 rfl (fun hc => ?_) (fun hc => ?_)
  · replace h := iteT h hc
    refine zz_loc (L1 := [(0, .ref v0), (1, .int v1)]) [0, 1] rfl ?_
    exact hx0 _ (Option.some.inj h).symm
  · replace h := iteF h hc
    refine zz_aload_n C 0 ddM_readArena_24 rfl rfl ?_
    obtain ⟨h1, h⟩ := gdN h
    obtain ⟨h2, h⟩ := gdN h
    refine zz_getr C ddM_readArena_25 fl_M_13 rfl h1 (of_decide_eq_true h2) ?_
    refine zz_iload_n C 2 ddM_readArena_28 rfl rfl ?_
    refine zz_bipush (v := 115) C ddM_readArena_29 (by decide) ?_
    refine zz_iload_n C 2 ddM_readArena_31 rfl rfl ?_
    obtain ⟨q3, hq3, h⟩ := bindN h
    refine zz_callS0 (As := [.int 115, .int v2]) C ddM_readArena_32 wd_1300 my_M_usual mv_M_usual (xM_usual hG (d - 1) (by omega) hq3) (by omega) rfl rfl (Nat.le_of_ble_eq_true rfl) ?_
    obtain ⟨h4, h⟩ := gdN h
    refine zz_iastore C ddM_readArena_35 h4 ?_
    refine zz_iinc (v := v2 + 1) (L1 := [(2, .int (v2 + 1)), (0, .ref v0), (1, .int v1)]) C 2 ddM_readArena_36 rfl rfl N (by decide) rfl ?_
    refine zz_goto (tgt := 19) C ddM_readArena_39 rfl ?_
    refine zz_loc (L1 := [(0, .ref v0), (1, .int v1), (2, .int (v2 + 1))]) [1, 2, 0] rfl ?_
    exact hK _ _ h
set_option maxHeartbeats 2000000 in
theorem zLM_readArena_19 {G : GXM} {X : CxM} (hG : GokM G) (C : CoM G X cM_readArena "HomeFreedModel") (N : mLM X = 4) {d : Nat} (hD : dpM X = d) (hd : 4 ≤ d) {v0 : Nat} {v1 : Int32} {q : (Mem)} : ∀ (f : Nat) (v2 : Int32) (M : Mem), LM_readArena_19 f v0 v1 v2 M = some q → (hx0 : ∀ y : Mem, q = y → ZM G X 42 [(0, .ref v0), (1, .int v1)] [] y 0 0) → ZM G X 19 [(0, .ref v0), (1, .int v1), (2, .int v2)] [] M 0 0 := by
  intro f
  induction f with
  | zero => intro v2 M h; cases h
  | succ f ih =>
    intro v2 M h hx0
    exact zBM_readArena_19 hG C N hD hd (K := LM_readArena_19 f) (q := q) (fun v2 M h => ih v2 M h hx0) hx0 h
set_option maxHeartbeats 2000000 in
theorem xM_readArena {G : GXM} {l : Launch} (hG : GokM G) (d : Nat) (hd : 4 ≤ d) {v0 : Nat} {M : Mem} {q : Int32 × Mem} (h : fM_readArena v0 M = some q) : ExM G l d 0 0 yM_readArena cM_readArena 4 (some .int) [.ref v0] M (some (.int q.1)) q.2 := by
  refine ex_of hG (by decide +kernel) (Nat.le_of_ble_eq_true rfl) ?_
  intro X hl C E N hD hn
  show ZM G X 0 [(0, .ref v0)] [] M 0 0
  unfold fM_readArena at h
  refine zz_aload_n C 0 ddM_readArena_0 rfl rfl ?_
  refine zz_iconst (v := 0) C ddM_readArena_1 (by decide) ?_
  obtain ⟨h1, h⟩ := gdN h
  refine zz_puti C ddM_readArena_2 fl_M_79 rfl rfl rfl h1 ?_
  refine zz_aload_n C 0 ddM_readArena_5 rfl rfl ?_
  refine zz_iconst (v := (-1)) C ddM_readArena_6 (by decide) ?_
  refine zz_puti C ddM_readArena_7 fl_M_86 rfl rfl rfl h1 ?_
  refine zz_aload_n C 0 ddM_readArena_10 rfl rfl ?_
  refine zz_iconst (v := 0) C ddM_readArena_11 (by decide) ?_
  refine zz_puti C ddM_readArena_12 fl_M_116 rfl rfl rfl h1 ?_
  refine zz_iconst (v := 0) C ddM_readArena_15 (by decide) ?_
  refine zz_istore_n (L1 := [(1, .int 0), (0, .ref v0)]) C ddM_readArena_16 rfl N (by decide) rfl ?_
  refine zz_iconst (v := 0) C ddM_readArena_17 (by decide) ?_
  refine zz_istore_n (L1 := [(2, .int 0), (1, .int 0), (0, .ref v0)]) C ddM_readArena_18 rfl N (by decide) rfl ?_
  refine zz_loc (L1 := [(0, .ref v0), (1, .int 0), (2, .int 0)]) [2, 1, 0] rfl ?_
  obtain ⟨q2, hq2, h⟩ := bindN h
  refine zLM_readArena_19 hG C N hD hd 1000000 _ _ hq2 ?_
  · intro y3 eq2; replace eq2 := eq2.symm; subst eq2
    refine zz_iconst (v := 1) C ddM_readArena_42 (by decide) ?_
    refine zz_istore_n (L1 := [(2, .int 1), (0, .ref v0), (1, .int 0)]) C ddM_readArena_43 rfl N (by decide) rfl ?_
    refine zz_loc (L1 := [(0, .ref v0), (1, .int 0), (2, .int 1)]) [1, 2, 0] rfl ?_
    obtain ⟨q4, hq4, h⟩ := bindN h
    refine zLM_readArena_44 hG C N hD hd 1000000 _ _ _ hq4 ?_
    · intro y5 eq4; replace eq4 := eq4.symm; subst eq4
      exact zBM_readArena_197 hG C N hD hd E h
