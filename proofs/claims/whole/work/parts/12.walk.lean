theorem ddU_blocksOf_0 : decode cU_blocksOf 0 = .ok (.iload_n 1, 1) := by decide +kernel
theorem ddU_blocksOf_1 : decode cU_blocksOf 1 = .ok (.ifCond .lt 36, 3) := by decide +kernel
theorem ddU_blocksOf_4 : decode cU_blocksOf 4 = .ok (.iload_n 1, 1) := by decide +kernel
theorem ddU_blocksOf_5 : decode cU_blocksOf 5 = .ok (.aload_n 0, 1) := by decide +kernel
theorem ddU_blocksOf_6 : decode cU_blocksOf 6 = .ok (.getfield 18, 3) := by decide +kernel
theorem ddU_blocksOf_9 : decode cU_blocksOf 9 = .ok (.if_icmp .ge 28, 3) := by decide +kernel
theorem ddU_blocksOf_12 : decode cU_blocksOf 12 = .ok (.aload_n 0, 1) := by decide +kernel
theorem ddU_blocksOf_13 : decode cU_blocksOf 13 = .ok (.getfield 15, 3) := by decide +kernel
theorem ddU_blocksOf_16 : decode cU_blocksOf 16 = .ok (.iload_n 1, 1) := by decide +kernel
theorem ddU_blocksOf_17 : decode cU_blocksOf 17 = .ok (.iaload, 1) := by decide +kernel
theorem ddU_blocksOf_18 : decode cU_blocksOf 18 = .ok (.ifCond .le 19, 3) := by decide +kernel
theorem ddU_blocksOf_21 : decode cU_blocksOf 21 = .ok (.aload_n 0, 1) := by decide +kernel
theorem ddU_blocksOf_22 : decode cU_blocksOf 22 = .ok (.getfield 9, 3) := by decide +kernel
theorem ddU_blocksOf_25 : decode cU_blocksOf 25 = .ok (.iconst 2, 1) := by decide +kernel
theorem ddU_blocksOf_26 : decode cU_blocksOf 26 = .ok (.iaload, 1) := by decide +kernel
theorem ddU_blocksOf_27 : decode cU_blocksOf 27 = .ok (.aload_n 0, 1) := by decide +kernel
theorem ddU_blocksOf_28 : decode cU_blocksOf 28 = .ok (.getfield 15, 3) := by decide +kernel
theorem ddU_blocksOf_31 : decode cU_blocksOf 31 = .ok (.iload_n 1, 1) := by decide +kernel
theorem ddU_blocksOf_32 : decode cU_blocksOf 32 = .ok (.iaload, 1) := by decide +kernel
theorem ddU_blocksOf_33 : decode cU_blocksOf 33 = .ok (.idiv, 1) := by decide +kernel
theorem ddU_blocksOf_34 : decode cU_blocksOf 34 = .ok (.goto 4, 3) := by decide +kernel
theorem ddU_blocksOf_37 : decode cU_blocksOf 37 = .ok (.iconst 0, 1) := by decide +kernel
theorem ddU_blocksOf_38 : decode cU_blocksOf 38 = .ok (.ireturn, 1) := by decide +kernel
set_option maxHeartbeats 2000000 in
theorem zBU_blocksOf_38 {G : GXM} {X : CxM} (hG : GokM G) (C : CoM G X cU_blocksOf "HomeFreed$Rules") (N : mLM X = 2) {d : Nat} (hD : dpM X = d) (hd : 0 ≤ d)  {q : Int32 × Mem} (E : EnM G X (some .int) (some (.int q.1)) q.2 0 0) {w0 : Int32} {M : Mem} (h : BU_blocksOf_38 w0 M = some q) : ZM G X 38 [] [.int w0] M 0 0 := by
  unfold BU_blocksOf_38 at h
  obtain rfl := Option.some.inj h
  exact zz_iret C E ddU_blocksOf_38
set_option maxHeartbeats 2000000 in
theorem zBU_blocksOf_37 {G : GXM} {X : CxM} (hG : GokM G) (C : CoM G X cU_blocksOf "HomeFreed$Rules") (N : mLM X = 2) {d : Nat} (hD : dpM X = d) (hd : 0 ≤ d)  {q : Int32 × Mem} (E : EnM G X (some .int) (some (.int q.1)) q.2 0 0) {M : Mem} (h : BU_blocksOf_37 M = some q) : ZM G X 37 [] [] M 0 0 := by
  unfold BU_blocksOf_37 at h
  refine zz_iconst (v := 0) C ddU_blocksOf_37 (by decide) ?_
  exact zBU_blocksOf_38 hG C N hD hd E h
set_option maxHeartbeats 2000000 in
theorem xU_blocksOf {G : GXM} {l : Launch} (hG : GokM G) (d : Nat) (hd : 0 ≤ d) {v0 : Nat} {v1 : Int32} {M : Mem} {q : Int32 × Mem} (h : fU_blocksOf v0 v1 M = some q) : ExM G l d 0 0 yU_blocksOf cU_blocksOf 2 (some .int) [.ref v0, .int v1] M (some (.int q.1)) q.2 := by
  refine ex_of hG (by decide +kernel) (Nat.le_of_ble_eq_true rfl) ?_
  intro X hl C E N hD hn
  show ZM G X 0 [(0, .ref v0), (1, .int v1)] [] M 0 0
  unfold fU_blocksOf at h
  refine zz_iload_n C 1 ddU_blocksOf_0 rfl rfl ?_
  refine zz_if_lt (tgt := 37) C ddU_blocksOf_1 rfl (fun hc => ?_) (fun hc => ?_)
  · replace h := iteT h hc
    refine zz_loc (L1 := []) [] rfl ?_
    exact zBU_blocksOf_37 hG C N hD hd E h
  · replace h := iteF h hc
    refine zz_iload_n C 1 ddU_blocksOf_4 rfl rfl ?_
    refine zz_aload_n C 0 ddU_blocksOf_5 rfl rfl ?_
    obtain ⟨h1, h⟩ := gdN h
    refine zz_geti C ddU_blocksOf_6 fl_U_18 rfl h1 ?_
    refine zz_icmp_ge (tgt := 37) C ddU_blocksOf_9 rfl (fun hc => ?_) (fun hc => ?_)
    · replace h := iteT h hc
      refine zz_loc (L1 := []) [] rfl ?_
      exact zBU_blocksOf_37 hG C N hD hd E h
    · replace h := iteF h hc
      refine zz_aload_n C 0 ddU_blocksOf_12 rfl rfl ?_
      obtain ⟨h2, h⟩ := gdN h
      refine zz_getr C ddU_blocksOf_13 fl_U_15 rfl h1 (of_decide_eq_true h2) ?_
      refine zz_iload_n C 1 ddU_blocksOf_16 rfl rfl ?_
      obtain ⟨h3, h⟩ := gdN h
      refine zz_iaload C ddU_blocksOf_17 h3 ?_
      refine zz_if_le (tgt := 37) C ddU_blocksOf_18 rfl (fun hc => ?_) (fun hc => ?_)
      · replace h := iteT h hc
        refine zz_loc (L1 := []) [] rfl ?_
        exact zBU_blocksOf_37 hG C N hD hd E h
      · replace h := iteF h hc
        refine zz_aload_n C 0 ddU_blocksOf_21 rfl rfl ?_
        obtain ⟨h4, h⟩ := gdN h
        refine zz_getr C ddU_blocksOf_22 fl_U_9 rfl h1 (of_decide_eq_true h4) ?_
        refine zz_iconst (v := 2) C ddU_blocksOf_25 (by decide) ?_
        obtain ⟨h5, h⟩ := gdN h
        refine zz_iaload C ddU_blocksOf_26 h5 ?_
        refine zz_aload_n C 0 ddU_blocksOf_27 rfl rfl ?_
        refine zz_getr C ddU_blocksOf_28 fl_U_15 rfl h1 (of_decide_eq_true h2) ?_
        refine zz_iload_n C 1 ddU_blocksOf_31 rfl rfl ?_
        refine zz_iaload C ddU_blocksOf_32 h3 ?_
        obtain ⟨h6, h⟩ := gdN h
        refine zz_idiv C ddU_blocksOf_33 (of_decide_eq_true h6) ?_
        refine zz_goto (tgt := 38) C ddU_blocksOf_34 rfl ?_
        refine zz_loc (L1 := []) [] rfl ?_
        exact zBU_blocksOf_38 hG C N hD hd E h
theorem ddC_push_0 : decode cC_push 0 = .ok (.iload_n 1, 1) := by decide +kernel
theorem ddC_push_1 : decode cC_push 1 = .ok (.ifCond .lt 25, 3) := by decide +kernel
theorem ddC_push_4 : decode cC_push 4 = .ok (.iload_n 1, 1) := by decide +kernel
theorem ddC_push_5 : decode cC_push 5 = .ok (.aload_n 0, 1) := by decide +kernel
theorem ddC_push_6 : decode cC_push 6 = .ok (.getfield 9, 3) := by decide +kernel
theorem ddC_push_9 : decode cC_push 9 = .ok (.arraylength, 1) := by decide +kernel
theorem ddC_push_10 : decode cC_push 10 = .ok (.if_icmp .ge 16, 3) := by decide +kernel
theorem ddC_push_13 : decode cC_push 13 = .ok (.iload_n 2, 1) := by decide +kernel
theorem ddC_push_14 : decode cC_push 14 = .ok (.ifCond .lt 12, 3) := by decide +kernel
theorem ddC_push_17 : decode cC_push 17 = .ok (.iload_n 2, 1) := by decide +kernel
theorem ddC_push_18 : decode cC_push 18 = .ok (.aload_n 0, 1) := by decide +kernel
theorem ddC_push_19 : decode cC_push 19 = .ok (.getfield 18, 3) := by decide +kernel
theorem ddC_push_22 : decode cC_push 22 = .ok (.arraylength, 1) := by decide +kernel
theorem ddC_push_23 : decode cC_push 23 = .ok (.if_icmp .lt 4, 3) := by decide +kernel
theorem ddC_push_26 : decode cC_push 26 = .ok (.return_, 1) := by decide +kernel
theorem ddC_push_27 : decode cC_push 27 = .ok (.aload_n 0, 1) := by decide +kernel
theorem ddC_push_28 : decode cC_push 28 = .ok (.getfield 18, 3) := by decide +kernel
theorem ddC_push_31 : decode cC_push 31 = .ok (.iload_n 2, 1) := by decide +kernel
theorem ddC_push_32 : decode cC_push 32 = .ok (.aload_n 0, 1) := by decide +kernel
theorem ddC_push_33 : decode cC_push 33 = .ok (.getfield 9, 3) := by decide +kernel
theorem ddC_push_36 : decode cC_push 36 = .ok (.iload_n 1, 1) := by decide +kernel
theorem ddC_push_37 : decode cC_push 37 = .ok (.iaload, 1) := by decide +kernel
theorem ddC_push_38 : decode cC_push 38 = .ok (.iastore, 1) := by decide +kernel
theorem ddC_push_39 : decode cC_push 39 = .ok (.aload_n 0, 1) := by decide +kernel
theorem ddC_push_40 : decode cC_push 40 = .ok (.getfield 9, 3) := by decide +kernel
theorem ddC_push_43 : decode cC_push 43 = .ok (.iload_n 1, 1) := by decide +kernel
theorem ddC_push_44 : decode cC_push 44 = .ok (.iload_n 2, 1) := by decide +kernel
theorem ddC_push_45 : decode cC_push 45 = .ok (.iastore, 1) := by decide +kernel
theorem ddC_push_46 : decode cC_push 46 = .ok (.aload_n 0, 1) := by decide +kernel
theorem ddC_push_47 : decode cC_push 47 = .ok (.getfield 21, 3) := by decide +kernel
theorem ddC_push_50 : decode cC_push 50 = .ok (.iload_n 2, 1) := by decide +kernel
theorem ddC_push_51 : decode cC_push 51 = .ok (.iload_n 1, 1) := by decide +kernel
theorem ddC_push_52 : decode cC_push 52 = .ok (.iastore, 1) := by decide +kernel
theorem ddC_push_53 : decode cC_push 53 = .ok (.aload_n 0, 1) := by decide +kernel
theorem ddC_push_54 : decode cC_push 54 = .ok (.getfield 15, 3) := by decide +kernel
theorem ddC_push_57 : decode cC_push 57 = .ok (.iload_n 1, 1) := by decide +kernel
theorem ddC_push_58 : decode cC_push 58 = .ok (.dup2, 1) := by decide +kernel
theorem ddC_push_59 : decode cC_push 59 = .ok (.iaload, 1) := by decide +kernel
theorem ddC_push_60 : decode cC_push 60 = .ok (.iconst 1, 1) := by decide +kernel
theorem ddC_push_61 : decode cC_push 61 = .ok (.iadd, 1) := by decide +kernel
theorem ddC_push_62 : decode cC_push 62 = .ok (.iastore, 1) := by decide +kernel
theorem ddC_push_63 : decode cC_push 63 = .ok (.return_, 1) := by decide +kernel
set_option maxHeartbeats 2000000 in
theorem zBC_push_26 {G : GXM} {X : CxM} (hG : GokM G) (C : CoM G X cC_push "HomeFreed$Chains") (N : mLM X = 3) {d : Nat} (hD : dpM X = d) (hd : 0 ≤ d)  {q : Mem} (E : EnM G X none none q 0 0) {M : Mem} (h : BC_push_26 M = some q) : ZM G X 26 [] [] M 0 0 := by
  unfold BC_push_26 at h
  obtain rfl := Option.some.inj h
  exact zz_vret C E ddC_push_26
set_option maxHeartbeats 2000000 in
theorem xC_push {G : GXM} {l : Launch} (hG : GokM G) (d : Nat) (hd : 0 ≤ d) {v0 : Nat} {v1 : Int32} {v2 : Int32} {M : Mem} {q : Mem} (h : fC_push v0 v1 v2 M = some q) : ExM G l d 0 0 yC_push cC_push 3 none [.ref v0, .int v1, .int v2] M none q := by
  refine ex_of hG (by decide +kernel) (Nat.le_of_ble_eq_true rfl) ?_
  intro X hl C E N hD hn
  show ZM G X 0 [(0, .ref v0), (1, .int v1), (2, .int v2)] [] M 0 0
  unfold fC_push at h
  refine zz_iload_n C 1 ddC_push_0 rfl rfl ?_
  refine zz_if_lt (tgt := 26) C ddC_push_1 rfl (fun hc => ?_) (fun hc => ?_)
  · replace h := iteT h hc
    refine zz_loc (L1 := []) [] rfl ?_
    exact zBC_push_26 hG C N hD hd E h
  · replace h := iteF h hc
    refine zz_iload_n C 1 ddC_push_4 rfl rfl ?_
    refine zz_aload_n C 0 ddC_push_5 rfl rfl ?_
    obtain ⟨h1, h⟩ := gdN h
    obtain ⟨h2, h⟩ := gdN h
    refine zz_getr C ddC_push_6 fl_C_9 rfl h1 (of_decide_eq_true h2) ?_
    obtain ⟨h3, h⟩ := gdN h
    refine zz_alenI C ddC_push_9 h3 ?_
    refine zz_icmp_ge (tgt := 26) C ddC_push_10 rfl (fun hc => ?_) (fun hc => ?_)
    · replace h := iteT h hc
      refine zz_loc (L1 := []) [] rfl ?_
      exact zBC_push_26 hG C N hD hd E h
    · replace h := iteF h hc
      refine zz_iload_n C 2 ddC_push_13 rfl rfl ?_
      refine zz_if_lt (tgt := 26) C ddC_push_14 rfl (fun hc => ?_) (fun hc => ?_)
      · replace h := iteT h hc
        refine zz_loc (L1 := []) [] rfl ?_
        exact zBC_push_26 hG C N hD hd E h
      · replace h := iteF h hc
        refine zz_iload_n C 2 ddC_push_17 rfl rfl ?_
        refine zz_aload_n C 0 ddC_push_18 rfl rfl ?_
        obtain ⟨h4, h⟩ := gdN h
        refine zz_getr C ddC_push_19 fl_C_18 rfl h1 (of_decide_eq_true h4) ?_
        obtain ⟨h5, h⟩ := gdN h
        refine zz_alenI C ddC_push_22 h5 ?_
        refine zz_icmp_lt (tgt := 27) C ddC_push_23 rfl (fun hc => ?_) (fun hc => ?_)
        · replace h := iteT h hc
          refine zz_aload_n C 0 ddC_push_27 rfl rfl ?_
          refine zz_getr C ddC_push_28 fl_C_18 rfl h1 (of_decide_eq_true h4) ?_
          refine zz_iload_n C 2 ddC_push_31 rfl rfl ?_
          refine zz_aload_n C 0 ddC_push_32 rfl rfl ?_
          refine zz_getr C ddC_push_33 fl_C_9 rfl h1 (of_decide_eq_true h2) ?_
          refine zz_iload_n C 1 ddC_push_36 rfl rfl ?_
          obtain ⟨h6, h⟩ := gdN h
          refine zz_iaload C ddC_push_37 h6 ?_
          obtain ⟨h7, h⟩ := gdN h
          refine zz_iastore C ddC_push_38 h7 ?_
          refine zz_aload_n C 0 ddC_push_39 rfl rfl ?_
          refine zz_getr C ddC_push_40 fl_C_9 rfl h1 (of_decide_eq_true h2) ?_
          refine zz_iload_n C 1 ddC_push_43 rfl rfl ?_
          refine zz_iload_n C 2 ddC_push_44 rfl rfl ?_
          obtain ⟨h8, h⟩ := gdN h
          refine zz_iastore C ddC_push_45 h8 ?_
          refine zz_aload_n C 0 ddC_push_46 rfl rfl ?_
          obtain ⟨h9, h⟩ := gdN h
          refine zz_getr C ddC_push_47 fl_C_21 rfl h1 (of_decide_eq_true h9) ?_
          refine zz_iload_n C 2 ddC_push_50 rfl rfl ?_
          refine zz_iload_n C 1 ddC_push_51 rfl rfl ?_
          obtain ⟨h10, h⟩ := gdN h
          refine zz_iastore C ddC_push_52 h10 ?_
          refine zz_aload_n C 0 ddC_push_53 rfl rfl ?_
          obtain ⟨h11, h⟩ := gdN h
          refine zz_getr C ddC_push_54 fl_C_15 rfl h1 (of_decide_eq_true h11) ?_
          refine zz_iload_n C 1 ddC_push_57 rfl rfl ?_
          refine zz_dup2 C ddC_push_58 rfl rfl ?_
          obtain ⟨h12, h⟩ := gdN h
          refine zz_iaload C ddC_push_59 h12 ?_
          refine zz_iconst (v := 1) C ddC_push_60 (by decide) ?_
          refine zz_iadd C ddC_push_61 ?_
          obtain ⟨h13, h⟩ := gdN h
          refine zz_iastore C ddC_push_62 h13 ?_
          obtain rfl := Option.some.inj h
          exact zz_vret C E ddC_push_63
        · replace h := iteF h hc
          refine zz_loc (L1 := []) [] rfl ?_
          exact zBC_push_26 hG C N hD hd E h
theorem ddH_fill_0 : decode cH_fill 0 = .ok (.aload_n 0, 1) := by decide +kernel
theorem ddH_fill_1 : decode cH_fill 1 = .ok (.getfield 9, 3) := by decide +kernel
theorem ddH_fill_4 : decode cH_fill 4 = .ok (.iload_n 1, 1) := by decide +kernel
theorem ddH_fill_5 : decode cH_fill 5 = .ok (.iload_n 2, 1) := by decide +kernel
theorem ddH_fill_6 : decode cH_fill 6 = .ok (.iastore, 1) := by decide +kernel
theorem ddH_fill_7 : decode cH_fill 7 = .ok (.aload_n 0, 1) := by decide +kernel
theorem ddH_fill_8 : decode cH_fill 8 = .ok (.getfield 18, 3) := by decide +kernel
theorem ddH_fill_11 : decode cH_fill 11 = .ok (.iload_n 1, 1) := by decide +kernel
theorem ddH_fill_12 : decode cH_fill 12 = .ok (.aload_n 0, 1) := by decide +kernel
theorem ddH_fill_13 : decode cH_fill 13 = .ok (.getfield 46, 3) := by decide +kernel
theorem ddH_fill_16 : decode cH_fill 16 = .ok (.iload_n 2, 1) := by decide +kernel
theorem ddH_fill_17 : decode cH_fill 17 = .ok (.invokevirtual 178, 3) := by decide +kernel
theorem ddH_fill_20 : decode cH_fill 20 = .ok (.iastore, 1) := by decide +kernel
theorem ddH_fill_21 : decode cH_fill 21 = .ok (.aload_n 0, 1) := by decide +kernel
theorem ddH_fill_22 : decode cH_fill 22 = .ok (.getfield 18, 3) := by decide +kernel
theorem ddH_fill_25 : decode cH_fill 25 = .ok (.iload_n 1, 1) := by decide +kernel
theorem ddH_fill_26 : decode cH_fill 26 = .ok (.iaload, 1) := by decide +kernel
theorem ddH_fill_27 : decode cH_fill 27 = .ok (.iconst 1, 1) := by decide +kernel
theorem ddH_fill_28 : decode cH_fill 28 = .ok (.isub, 1) := by decide +kernel
theorem ddH_fill_29 : decode cH_fill 29 = .ok (.istore_n 3, 1) := by decide +kernel
theorem ddH_fill_30 : decode cH_fill 30 = .ok (.iload_n 3, 1) := by decide +kernel
theorem ddH_fill_31 : decode cH_fill 31 = .ok (.ifCond .lt 28, 3) := by decide +kernel
theorem ddH_fill_34 : decode cH_fill 34 = .ok (.aload_n 0, 1) := by decide +kernel
theorem ddH_fill_35 : decode cH_fill 35 = .ok (.getfield 30, 3) := by decide +kernel
theorem ddH_fill_38 : decode cH_fill 38 = .ok (.aload_n 0, 1) := by decide +kernel
theorem ddH_fill_39 : decode cH_fill 39 = .ok (.iload_n 1, 1) := by decide +kernel
theorem ddH_fill_40 : decode cH_fill 40 = .ok (.iconst 0, 1) := by decide +kernel
theorem ddH_fill_41 : decode cH_fill 41 = .ok (.invokevirtual 126, 3) := by decide +kernel
theorem ddH_fill_44 : decode cH_fill 44 = .ok (.iload_n 1, 1) := by decide +kernel
theorem ddH_fill_45 : decode cH_fill 45 = .ok (.bipush 40, 2) := by decide +kernel
theorem ddH_fill_47 : decode cH_fill 47 = .ok (.imul, 1) := by decide +kernel
theorem ddH_fill_48 : decode cH_fill 48 = .ok (.iload_n 3, 1) := by decide +kernel
theorem ddH_fill_49 : decode cH_fill 49 = .ok (.iadd, 1) := by decide +kernel
theorem ddH_fill_50 : decode cH_fill 50 = .ok (.invokevirtual 181, 3) := by decide +kernel
theorem ddH_fill_53 : decode cH_fill 53 = .ok (.iinc 3 (-1), 3) := by decide +kernel
theorem ddH_fill_56 : decode cH_fill 56 = .ok (.goto (-26), 3) := by decide +kernel
theorem ddH_fill_59 : decode cH_fill 59 = .ok (.return_, 1) := by decide +kernel
set_option maxHeartbeats 2000000 in
theorem zBH_fill_30 {G : GXM} {X : CxM} (hG : GokM G) (C : CoM G X cH_fill "HomeFreed$Heap") (N : mLM X = 4) {d : Nat} (hD : dpM X = d) (hd : 1 ≤ d) {v0 : Nat} {v1 : Int32} {K : Nat → Int32 → Int32 → Mem → Option ((Mem))} {q : (Mem)} (hK : ∀ (v3 : Int32) (M : Mem), K v0 v1 v3 M = some q → ZM G X 30 [(0, .ref v0), (1, .int v1), (3, .int v3)] [] M 0 0) (hr : ∀ r : Mem, q =  r → EnM G X none none r 0 0) {v3 : Int32} {M : Mem} (h : BH_fill_30 K v0 v1 v3 M = some q) : ZM G X 30 [(0, .ref v0), (1, .int v1), (3, .int v3)] [] M 0 0 := by
  unfold BH_fill_30 at h
  refine zz_iload_n C 2 ddH_fill_30 rfl rfl ?_
  refine zz_if_lt (tgt := 59) C ddH_fill_31 rfl (fun hc => ?_) (fun hc => ?_)
  · replace h := iteT h hc
    exact zz_vret C (hr _ (Option.some.inj h).symm) ddH_fill_59
  · replace h := iteF h hc
    refine zz_aload_n C 0 ddH_fill_34 rfl rfl ?_
    obtain ⟨h1, h⟩ := gdN h
    obtain ⟨h2, h⟩ := gdN h
    refine zz_getr C ddH_fill_35 fl_H_30 rfl h1 (of_decide_eq_true h2) ?_
    refine zz_aload_n C 0 ddH_fill_38 rfl rfl ?_
    refine zz_iload_n C 1 ddH_fill_39 rfl rfl ?_
    refine zz_iconst (v := 0) C ddH_fill_40 (by decide) ?_
    obtain ⟨q3, hq3, h⟩ := bindN h
    refine zz_callV0 (As := [.int v1, .int 0]) C ddH_fill_41 wd_725 my_H_listOf mv_H_listOf ⟨_, rfl, rfl⟩ (xH_listOf hG (d - 1) (by omega) hq3) (by omega) h1 rfl rfl (Nat.le_of_ble_eq_true rfl) ?_
    refine zz_iload_n C 1 ddH_fill_44 rfl rfl ?_
    refine zz_bipush (v := 40) C ddH_fill_45 (by decide) ?_
    refine zz_imul C ddH_fill_47 ?_
    refine zz_iload_n C 2 ddH_fill_48 rfl rfl ?_
    refine zz_iadd C ddH_fill_49 ?_
    obtain ⟨h5, h⟩ := gdN h
    obtain ⟨q4, hq4, h⟩ := bindN h
    refine zz_callV0 (As := [.int q3.1, .int ((v1 * 40) + v3)]) C ddH_fill_50 wd_726 my_C_push mv_C_push ⟨_, rfl, rfl⟩ (xC_push hG (d - 1) (by omega) hq4) (by omega) h5 rfl rfl (Nat.le_of_ble_eq_true rfl) ?_
    refine zz_iinc (v := v3 + (-1)) (L1 := [(3, .int (v3 + (-1))), (0, .ref v0), (1, .int v1)]) C 2 ddH_fill_53 rfl rfl N (by decide) rfl ?_
    refine zz_goto (tgt := 30) C ddH_fill_56 rfl ?_
    refine zz_loc (L1 := [(0, .ref v0), (1, .int v1), (3, .int (v3 + (-1)))]) [1, 2, 0] rfl ?_
    exact hK _ _ h
set_option maxHeartbeats 2000000 in
theorem zLH_fill_30 {G : GXM} {X : CxM} (hG : GokM G) (C : CoM G X cH_fill "HomeFreed$Heap") (N : mLM X = 4) {d : Nat} (hD : dpM X = d) (hd : 1 ≤ d) {v0 : Nat} {v1 : Int32} {q : (Mem)} : ∀ (f : Nat) (v3 : Int32) (M : Mem), LH_fill_30 f v0 v1 v3 M = some q → (hr : ∀ r : Mem, q =  r → EnM G X none none r 0 0) → ZM G X 30 [(0, .ref v0), (1, .int v1), (3, .int v3)] [] M 0 0 := by
  intro f
  induction f with
  | zero => intro v3 M h; cases h
  | succ f ih =>
    intro v3 M h hr
    exact zBH_fill_30 hG C N hD hd (K := LH_fill_30 f) (q := q) (fun v3 M h => ih v3 M h hr) hr h
set_option maxHeartbeats 2000000 in
theorem xH_fill {G : GXM} {l : Launch} (hG : GokM G) (d : Nat) (hd : 1 ≤ d) {v0 : Nat} {v1 : Int32} {v2 : Int32} {M : Mem} {q : Mem} (h : fH_fill v0 v1 v2 M = some q) : ExM G l d 0 0 yH_fill cH_fill 4 none [.ref v0, .int v1, .int v2] M none q := by
  refine ex_of hG (by decide +kernel) (Nat.le_of_ble_eq_true rfl) ?_
  intro X hl C E N hD hn
  show ZM G X 0 [(0, .ref v0), (1, .int v1), (2, .int v2)] [] M 0 0
  unfold fH_fill at h
  refine zz_aload_n C 0 ddH_fill_0 rfl rfl ?_
  obtain ⟨h1, h⟩ := gdN h
  obtain ⟨h2, h⟩ := gdN h
  refine zz_getr C ddH_fill_1 fl_H_9 rfl h1 (of_decide_eq_true h2) ?_
  refine zz_iload_n C 1 ddH_fill_4 rfl rfl ?_
  refine zz_iload_n C 2 ddH_fill_5 rfl rfl ?_
  obtain ⟨h3, h⟩ := gdN h
  refine zz_iastore C ddH_fill_6 h3 ?_
  refine zz_aload_n C 0 ddH_fill_7 rfl rfl ?_
  obtain ⟨h4, h⟩ := gdN h
  refine zz_getr C ddH_fill_8 fl_H_18 rfl h1 (of_decide_eq_true h4) ?_
  refine zz_iload_n C 1 ddH_fill_11 rfl rfl ?_
  refine zz_aload_n C 0 ddH_fill_12 rfl rfl ?_
  obtain ⟨h5, h⟩ := gdN h
  refine zz_getr C ddH_fill_13 fl_H_46 rfl h1 (of_decide_eq_true h5) ?_
  refine zz_iload_n C 2 ddH_fill_16 rfl rfl ?_
  obtain ⟨h7, h⟩ := gdN h
  obtain ⟨q6, hq6, h⟩ := bindN h
  refine zz_callV0 (As := [.int v2]) C ddH_fill_17 wd_721 my_U_blocksOf mv_U_blocksOf ⟨_, rfl, rfl⟩ (xU_blocksOf hG (d - 1) (by omega) hq6) (by omega) h7 rfl rfl (Nat.le_of_ble_eq_true rfl) ?_
  obtain ⟨h8, h⟩ := gdN h
  refine zz_iastore C ddH_fill_20 h8 ?_
  refine zz_aload_n C 0 ddH_fill_21 rfl rfl ?_
  obtain ⟨h9, h⟩ := gdN h
  obtain ⟨h10, h⟩ := gdN h
  refine zz_getr C ddH_fill_22 fl_H_18 rfl h9 (of_decide_eq_true h10) ?_
  refine zz_iload_n C 1 ddH_fill_25 rfl rfl ?_
  obtain ⟨h11, h⟩ := gdN h
  refine zz_iaload C ddH_fill_26 h11 ?_
  refine zz_iconst (v := 1) C ddH_fill_27 (by decide) ?_
  refine zz_isub C ddH_fill_28 ?_
  refine zz_istore_n (L1 := [(3, .int ((giM (siM q6.2 (grM M v0 3) (Int32.toNatClampNeg v1) q6.1) (grM q6.2 v0 3) (Int32.toNatClampNeg v1)) - 1)), (0, .ref v0), (1, .int v1), (2, .int v2)]) C ddH_fill_29 rfl N (by decide) rfl ?_
  refine zz_loc (L1 := [(0, .ref v0), (1, .int v1), (3, .int ((giM (siM q6.2 (grM M v0 3) (Int32.toNatClampNeg v1) q6.1) (grM q6.2 v0 3) (Int32.toNatClampNeg v1)) - 1))]) [1, 2, 0] rfl ?_
  obtain ⟨q12, hq12, h⟩ := bindN h
  refine zLH_fill_30 hG C N hD hd 1000000 _ _ hq12 ?_
  · intro r13 eq12; replace eq12 := eq12.symm; subst eq12
    obtain rfl := Option.some.inj h
    exact E
theorem ddC_append_0 : decode cC_append 0 = .ok (.iload_n 1, 1) := by decide +kernel
theorem ddC_append_1 : decode cC_append 1 = .ok (.ifCond .lt 25, 3) := by decide +kernel
theorem ddC_append_4 : decode cC_append 4 = .ok (.iload_n 1, 1) := by decide +kernel
theorem ddC_append_5 : decode cC_append 5 = .ok (.aload_n 0, 1) := by decide +kernel
theorem ddC_append_6 : decode cC_append 6 = .ok (.getfield 9, 3) := by decide +kernel
theorem ddC_append_9 : decode cC_append 9 = .ok (.arraylength, 1) := by decide +kernel
theorem ddC_append_10 : decode cC_append 10 = .ok (.if_icmp .ge 16, 3) := by decide +kernel
theorem ddC_append_13 : decode cC_append 13 = .ok (.iload_n 2, 1) := by decide +kernel
theorem ddC_append_14 : decode cC_append 14 = .ok (.ifCond .lt 12, 3) := by decide +kernel
theorem ddC_append_17 : decode cC_append 17 = .ok (.iload_n 2, 1) := by decide +kernel
theorem ddC_append_18 : decode cC_append 18 = .ok (.aload_n 0, 1) := by decide +kernel
theorem ddC_append_19 : decode cC_append 19 = .ok (.getfield 18, 3) := by decide +kernel
theorem ddC_append_22 : decode cC_append 22 = .ok (.arraylength, 1) := by decide +kernel
theorem ddC_append_23 : decode cC_append 23 = .ok (.if_icmp .lt 4, 3) := by decide +kernel
theorem ddC_append_26 : decode cC_append 26 = .ok (.return_, 1) := by decide +kernel
theorem ddC_append_27 : decode cC_append 27 = .ok (.iconst (-1), 1) := by decide +kernel
theorem ddC_append_28 : decode cC_append 28 = .ok (.istore_n 3, 1) := by decide +kernel
theorem ddC_append_29 : decode cC_append 29 = .ok (.iconst 0, 1) := by decide +kernel
theorem ddC_append_30 : decode cC_append 30 = .ok (.istore 4, 2) := by decide +kernel
theorem ddC_append_32 : decode cC_append 32 = .ok (.aload_n 0, 1) := by decide +kernel
theorem ddC_append_33 : decode cC_append 33 = .ok (.getfield 9, 3) := by decide +kernel
theorem ddC_append_36 : decode cC_append 36 = .ok (.iload_n 1, 1) := by decide +kernel
theorem ddC_append_37 : decode cC_append 37 = .ok (.iaload, 1) := by decide +kernel
theorem ddC_append_38 : decode cC_append 38 = .ok (.istore 5, 2) := by decide +kernel
theorem ddC_append_40 : decode cC_append 40 = .ok (.iload 4, 2) := by decide +kernel
theorem ddC_append_42 : decode cC_append 42 = .ok (.aload_n 0, 1) := by decide +kernel
theorem ddC_append_43 : decode cC_append 43 = .ok (.getfield 18, 3) := by decide +kernel
theorem ddC_append_46 : decode cC_append 46 = .ok (.arraylength, 1) := by decide +kernel
theorem ddC_append_47 : decode cC_append 47 = .ok (.if_icmp .ge 27, 3) := by decide +kernel
theorem ddC_append_50 : decode cC_append 50 = .ok (.iload 5, 2) := by decide +kernel
theorem ddC_append_52 : decode cC_append 52 = .ok (.iconst (-1), 1) := by decide +kernel
theorem ddC_append_53 : decode cC_append 53 = .ok (.if_icmp .eq 21, 3) := by decide +kernel
theorem ddC_append_56 : decode cC_append 56 = .ok (.iload 5, 2) := by decide +kernel
theorem ddC_append_58 : decode cC_append 58 = .ok (.istore_n 3, 1) := by decide +kernel
theorem ddC_append_59 : decode cC_append 59 = .ok (.iinc 4 1, 3) := by decide +kernel
theorem ddC_append_62 : decode cC_append 62 = .ok (.aload_n 0, 1) := by decide +kernel
theorem ddC_append_63 : decode cC_append 63 = .ok (.getfield 18, 3) := by decide +kernel
theorem ddC_append_66 : decode cC_append 66 = .ok (.iload 5, 2) := by decide +kernel
theorem ddC_append_68 : decode cC_append 68 = .ok (.iaload, 1) := by decide +kernel
theorem ddC_append_69 : decode cC_append 69 = .ok (.istore 5, 2) := by decide +kernel
theorem ddC_append_71 : decode cC_append 71 = .ok (.goto (-31), 3) := by decide +kernel
theorem ddC_append_74 : decode cC_append 74 = .ok (.iload_n 3, 1) := by decide +kernel
theorem ddC_append_75 : decode cC_append 75 = .ok (.iconst (-1), 1) := by decide +kernel
theorem ddC_append_76 : decode cC_append 76 = .ok (.if_icmp .ne 13, 3) := by decide +kernel
theorem ddC_append_79 : decode cC_append 79 = .ok (.aload_n 0, 1) := by decide +kernel
theorem ddC_append_80 : decode cC_append 80 = .ok (.getfield 9, 3) := by decide +kernel
theorem ddC_append_83 : decode cC_append 83 = .ok (.iload_n 1, 1) := by decide +kernel
theorem ddC_append_84 : decode cC_append 84 = .ok (.iload_n 2, 1) := by decide +kernel
theorem ddC_append_85 : decode cC_append 85 = .ok (.iastore, 1) := by decide +kernel
theorem ddC_append_86 : decode cC_append 86 = .ok (.goto 10, 3) := by decide +kernel
theorem ddC_append_89 : decode cC_append 89 = .ok (.aload_n 0, 1) := by decide +kernel
theorem ddC_append_90 : decode cC_append 90 = .ok (.getfield 18, 3) := by decide +kernel
theorem ddC_append_93 : decode cC_append 93 = .ok (.iload_n 3, 1) := by decide +kernel
theorem ddC_append_94 : decode cC_append 94 = .ok (.iload_n 2, 1) := by decide +kernel
theorem ddC_append_95 : decode cC_append 95 = .ok (.iastore, 1) := by decide +kernel
theorem ddC_append_96 : decode cC_append 96 = .ok (.aload_n 0, 1) := by decide +kernel
theorem ddC_append_97 : decode cC_append 97 = .ok (.getfield 18, 3) := by decide +kernel
theorem ddC_append_100 : decode cC_append 100 = .ok (.iload_n 2, 1) := by decide +kernel
theorem ddC_append_101 : decode cC_append 101 = .ok (.iconst (-1), 1) := by decide +kernel
theorem ddC_append_102 : decode cC_append 102 = .ok (.iastore, 1) := by decide +kernel
theorem ddC_append_103 : decode cC_append 103 = .ok (.aload_n 0, 1) := by decide +kernel
theorem ddC_append_104 : decode cC_append 104 = .ok (.getfield 21, 3) := by decide +kernel
theorem ddC_append_107 : decode cC_append 107 = .ok (.iload_n 2, 1) := by decide +kernel
theorem ddC_append_108 : decode cC_append 108 = .ok (.iload_n 1, 1) := by decide +kernel
theorem ddC_append_109 : decode cC_append 109 = .ok (.iastore, 1) := by decide +kernel
theorem ddC_append_110 : decode cC_append 110 = .ok (.aload_n 0, 1) := by decide +kernel
theorem ddC_append_111 : decode cC_append 111 = .ok (.getfield 15, 3) := by decide +kernel
theorem ddC_append_114 : decode cC_append 114 = .ok (.iload_n 1, 1) := by decide +kernel
theorem ddC_append_115 : decode cC_append 115 = .ok (.dup2, 1) := by decide +kernel
theorem ddC_append_116 : decode cC_append 116 = .ok (.iaload, 1) := by decide +kernel
theorem ddC_append_117 : decode cC_append 117 = .ok (.iconst 1, 1) := by decide +kernel
theorem ddC_append_118 : decode cC_append 118 = .ok (.iadd, 1) := by decide +kernel
theorem ddC_append_119 : decode cC_append 119 = .ok (.iastore, 1) := by decide +kernel
theorem ddC_append_120 : decode cC_append 120 = .ok (.return_, 1) := by decide +kernel
set_option maxHeartbeats 2000000 in
theorem zBC_append_96 {G : GXM} {X : CxM} (hG : GokM G) (C : CoM G X cC_append "HomeFreed$Chains") (N : mLM X = 6) {d : Nat} (hD : dpM X = d) (hd : 0 ≤ d)  {q : Mem} (E : EnM G X none none q 0 0) {v0 : Nat} {v1 : Int32} {v2 : Int32} {M : Mem} (h : BC_append_96 v0 v1 v2 M = some q) : ZM G X 96 [(0, .ref v0), (1, .int v1), (2, .int v2)] [] M 0 0 := by
  unfold BC_append_96 at h
  refine zz_aload_n C 0 ddC_append_96 rfl rfl ?_
  obtain ⟨h1, h⟩ := gdN h
  obtain ⟨h2, h⟩ := gdN h
  refine zz_getr C ddC_append_97 fl_C_18 rfl h1 (of_decide_eq_true h2) ?_
  refine zz_iload_n C 2 ddC_append_100 rfl rfl ?_
  refine zz_iconst (v := (-1)) C ddC_append_101 (by decide) ?_
  obtain ⟨h3, h⟩ := gdN h
  refine zz_iastore C ddC_append_102 h3 ?_
  refine zz_aload_n C 0 ddC_append_103 rfl rfl ?_
  obtain ⟨h4, h⟩ := gdN h
  refine zz_getr C ddC_append_104 fl_C_21 rfl h1 (of_decide_eq_true h4) ?_
  refine zz_iload_n C 2 ddC_append_107 rfl rfl ?_
  refine zz_iload_n C 1 ddC_append_108 rfl rfl ?_
  obtain ⟨h5, h⟩ := gdN h
  refine zz_iastore C ddC_append_109 h5 ?_
  refine zz_aload_n C 0 ddC_append_110 rfl rfl ?_
  obtain ⟨h6, h⟩ := gdN h
  refine zz_getr C ddC_append_111 fl_C_15 rfl h1 (of_decide_eq_true h6) ?_
  refine zz_iload_n C 1 ddC_append_114 rfl rfl ?_
  refine zz_dup2 C ddC_append_115 rfl rfl ?_
  obtain ⟨h7, h⟩ := gdN h
  refine zz_iaload C ddC_append_116 h7 ?_
  refine zz_iconst (v := 1) C ddC_append_117 (by decide) ?_
  refine zz_iadd C ddC_append_118 ?_
  obtain ⟨h8, h⟩ := gdN h
  refine zz_iastore C ddC_append_119 h8 ?_
  obtain rfl := Option.some.inj h
  exact zz_vret C E ddC_append_120
set_option maxHeartbeats 2000000 in
theorem zBC_append_74 {G : GXM} {X : CxM} (hG : GokM G) (C : CoM G X cC_append "HomeFreed$Chains") (N : mLM X = 6) {d : Nat} (hD : dpM X = d) (hd : 0 ≤ d)  {q : Mem} (E : EnM G X none none q 0 0) {v0 : Nat} {v1 : Int32} {v2 : Int32} {v3 : Int32} {M : Mem} (h : BC_append_74 v0 v1 v2 v3 M = some q) : ZM G X 74 [(0, .ref v0), (1, .int v1), (2, .int v2), (3, .int v3)] [] M 0 0 := by
  unfold BC_append_74 at h
  refine zz_iload_n C 3 ddC_append_74 rfl rfl ?_
  refine zz_iconst (v := (-1)) C ddC_append_75 (by decide) ?_
  refine zz_icmp_ne (tgt := 89) C ddC_append_76 rfl (fun hc => ?_) (fun hc => ?_)
  · replace h := iteF h hc
    refine zz_aload_n C 0 ddC_append_89 rfl rfl ?_
    obtain ⟨h1, h⟩ := gdN h
    obtain ⟨h2, h⟩ := gdN h
    refine zz_getr C ddC_append_90 fl_C_18 rfl h1 (of_decide_eq_true h2) ?_
    refine zz_iload_n C 3 ddC_append_93 rfl rfl ?_
    refine zz_iload_n C 2 ddC_append_94 rfl rfl ?_
    obtain ⟨h3, h⟩ := gdN h
    refine zz_iastore C ddC_append_95 h3 ?_
    refine zz_loc (L1 := [(0, .ref v0), (1, .int v1), (2, .int v2)]) [0, 1, 2] rfl ?_
    exact zBC_append_96 hG C N hD hd E h
  · replace h := iteT h hc
    refine zz_aload_n C 0 ddC_append_79 rfl rfl ?_
    obtain ⟨h4, h⟩ := gdN h
    obtain ⟨h5, h⟩ := gdN h
    refine zz_getr C ddC_append_80 fl_C_9 rfl h4 (of_decide_eq_true h5) ?_
    refine zz_iload_n C 1 ddC_append_83 rfl rfl ?_
    refine zz_iload_n C 2 ddC_append_84 rfl rfl ?_
    obtain ⟨h6, h⟩ := gdN h
    refine zz_iastore C ddC_append_85 h6 ?_
    refine zz_goto (tgt := 96) C ddC_append_86 rfl ?_
    refine zz_loc (L1 := [(0, .ref v0), (1, .int v1), (2, .int v2)]) [0, 1, 2] rfl ?_
    exact zBC_append_96 hG C N hD hd E h
set_option maxHeartbeats 2000000 in
theorem zBC_append_40 {G : GXM} {X : CxM} (hG : GokM G) (C : CoM G X cC_append "HomeFreed$Chains") (N : mLM X = 6) {d : Nat} (hD : dpM X = d) (hd : 0 ≤ d) {v0 : Nat} {v1 : Int32} {v2 : Int32} {K : Nat → Int32 → Int32 → Int32 → Int32 → Int32 → Mem → Option ((Int32 × Mem))} {q : (Int32 × Mem)} (hK : ∀ (v3 : Int32) (v4 : Int32) (v5 : Int32) (M : Mem), K v0 v1 v2 v3 v4 v5 M = some q → ZM G X 40 [(0, .ref v0), (1, .int v1), (2, .int v2), (3, .int v3), (4, .int v4), (5, .int v5)] [] M 0 0) (hx0 : ∀ y : Int32 × Mem, q = y → ZM G X 74 [(0, .ref v0), (1, .int v1), (2, .int v2), (3, .int y.1)] [] y.2 0 0) {v3 : Int32} {v4 : Int32} {v5 : Int32} {M : Mem} (h : BC_append_40 K v0 v1 v2 v3 v4 v5 M = some q) : ZM G X 40 [(0, .ref v0), (1, .int v1), (2, .int v2), (3, .int v3), (4, .int v4), (5, .int v5)] [] M 0 0 := by
  unfold BC_append_40 at h
  refine zz_iload C 4 ddC_append_40 rfl ?_
  refine zz_aload_n C 0 ddC_append_42 rfl rfl ?_
  obtain ⟨h1, h⟩ := gdN h
  obtain ⟨h2, h⟩ := gdN h
  refine zz_getr C ddC_append_43 fl_C_18 rfl h1 (of_decide_eq_true h2) ?_
  obtain ⟨h3, h⟩ := gdN h
  refine zz_alenI C ddC_append_46 h3 ?_
  refine zz_icmp_ge (tgt := 74) C ddC_append_47 rfl (fun hc => ?_) (fun hc => ?_)
  · replace h := iteT h hc
    refine zz_loc (L1 := [(0, .ref v0), (1, .int v1), (2, .int v2), (3, .int v3)]) [0, 1, 2, 3] rfl ?_
    exact hx0 _ (Option.some.inj h).symm
  · replace h := iteF h hc
    refine zz_iload C 5 ddC_append_50 rfl ?_
    refine zz_iconst (v := (-1)) C ddC_append_52 (by decide) ?_
    refine zz_icmp_eq (tgt := 74) C ddC_append_53 rfl (fun hc => ?_) (fun hc => ?_)
    · replace h := iteT h hc
      refine zz_loc (L1 := [(0, .ref v0), (1, .int v1), (2, .int v2), (3, .int v3)]) [0, 1, 2, 3] rfl ?_
      exact hx0 _ (Option.some.inj h).symm
    · replace h := iteF h hc
      refine zz_iload C 5 ddC_append_56 rfl ?_
      refine zz_istore_n (L1 := [(3, .int v5), (0, .ref v0), (1, .int v1), (2, .int v2), (4, .int v4), (5, .int v5)]) C ddC_append_58 rfl N (by decide) rfl ?_
      refine zz_iinc (v := v4 + 1) (L1 := [(4, .int (v4 + 1)), (3, .int v5), (0, .ref v0), (1, .int v1), (2, .int v2), (5, .int v5)]) C 4 ddC_append_59 rfl rfl N (by decide) rfl ?_
      refine zz_aload_n C 2 ddC_append_62 rfl rfl ?_
      refine zz_getr C ddC_append_63 fl_C_18 rfl h1 (of_decide_eq_true h2) ?_
      refine zz_iload C 5 ddC_append_66 rfl ?_
      obtain ⟨h4, h⟩ := gdN h
      refine zz_iaload C ddC_append_68 h4 ?_
      refine zz_istore (L1 := [(5, .int (giM M (grM M v0 2) (Int32.toNatClampNeg v5))), (4, .int (v4 + 1)), (3, .int v5), (0, .ref v0), (1, .int v1), (2, .int v2)]) C ddC_append_69 N (by decide) rfl ?_
      refine zz_goto (tgt := 40) C ddC_append_71 rfl ?_
      refine zz_loc (L1 := [(0, .ref v0), (1, .int v1), (2, .int v2), (3, .int v5), (4, .int (v4 + 1)), (5, .int (giM M (grM M v0 2) (Int32.toNatClampNeg v5)))]) [3, 4, 5, 2, 1, 0] rfl ?_
      exact hK _ _ _ _ h
set_option maxHeartbeats 2000000 in
theorem zLC_append_40 {G : GXM} {X : CxM} (hG : GokM G) (C : CoM G X cC_append "HomeFreed$Chains") (N : mLM X = 6) {d : Nat} (hD : dpM X = d) (hd : 0 ≤ d) {v0 : Nat} {v1 : Int32} {v2 : Int32} {q : (Int32 × Mem)} : ∀ (f : Nat) (v3 : Int32) (v4 : Int32) (v5 : Int32) (M : Mem), LC_append_40 f v0 v1 v2 v3 v4 v5 M = some q → (hx0 : ∀ y : Int32 × Mem, q = y → ZM G X 74 [(0, .ref v0), (1, .int v1), (2, .int v2), (3, .int y.1)] [] y.2 0 0) → ZM G X 40 [(0, .ref v0), (1, .int v1), (2, .int v2), (3, .int v3), (4, .int v4), (5, .int v5)] [] M 0 0 := by
  intro f
  induction f with
  | zero => intro v3 v4 v5 M h; cases h
  | succ f ih =>
    intro v3 v4 v5 M h hx0
    exact zBC_append_40 hG C N hD hd (K := LC_append_40 f) (q := q) (fun v3 v4 v5 M h => ih v3 v4 v5 M h hx0) hx0 h
set_option maxHeartbeats 2000000 in
theorem zBC_append_26 {G : GXM} {X : CxM} (hG : GokM G) (C : CoM G X cC_append "HomeFreed$Chains") (N : mLM X = 6) {d : Nat} (hD : dpM X = d) (hd : 0 ≤ d)  {q : Mem} (E : EnM G X none none q 0 0) {M : Mem} (h : BC_append_26 M = some q) : ZM G X 26 [] [] M 0 0 := by
  unfold BC_append_26 at h
  obtain rfl := Option.some.inj h
  exact zz_vret C E ddC_append_26
set_option maxHeartbeats 2000000 in
theorem xC_append {G : GXM} {l : Launch} (hG : GokM G) (d : Nat) (hd : 0 ≤ d) {v0 : Nat} {v1 : Int32} {v2 : Int32} {M : Mem} {q : Mem} (h : fC_append v0 v1 v2 M = some q) : ExM G l d 0 0 yC_append cC_append 6 none [.ref v0, .int v1, .int v2] M none q := by
  refine ex_of hG (by decide +kernel) (Nat.le_of_ble_eq_true rfl) ?_
  intro X hl C E N hD hn
  show ZM G X 0 [(0, .ref v0), (1, .int v1), (2, .int v2)] [] M 0 0
  unfold fC_append at h
  refine zz_iload_n C 1 ddC_append_0 rfl rfl ?_
  refine zz_if_lt (tgt := 26) C ddC_append_1 rfl (fun hc => ?_) (fun hc => ?_)
  · replace h := iteT h hc
    refine zz_loc (L1 := []) [] rfl ?_
    exact zBC_append_26 hG C N hD hd E h
  · replace h := iteF h hc
    refine zz_iload_n C 1 ddC_append_4 rfl rfl ?_
    refine zz_aload_n C 0 ddC_append_5 rfl rfl ?_
    obtain ⟨h1, h⟩ := gdN h
    obtain ⟨h2, h⟩ := gdN h
    refine zz_getr C ddC_append_6 fl_C_9 rfl h1 (of_decide_eq_true h2) ?_
    obtain ⟨h3, h⟩ := gdN h
    refine zz_alenI C ddC_append_9 h3 ?_
    refine zz_icmp_ge (tgt := 26) C ddC_append_10 rfl (fun hc => ?_) (fun hc => ?_)
    · replace h := iteT h hc
      refine zz_loc (L1 := []) [] rfl ?_
      exact zBC_append_26 hG C N hD hd E h
    · replace h := iteF h hc
      refine zz_iload_n C 2 ddC_append_13 rfl rfl ?_
      refine zz_if_lt (tgt := 26) C ddC_append_14 rfl (fun hc => ?_) (fun hc => ?_)
      · replace h := iteT h hc
        refine zz_loc (L1 := []) [] rfl ?_
        exact zBC_append_26 hG C N hD hd E h
      · replace h := iteF h hc
        refine zz_iload_n C 2 ddC_append_17 rfl rfl ?_
        refine zz_aload_n C 0 ddC_append_18 rfl rfl ?_
        obtain ⟨h4, h⟩ := gdN h
        refine zz_getr C ddC_append_19 fl_C_18 rfl h1 (of_decide_eq_true h4) ?_
        obtain ⟨h5, h⟩ := gdN h
        refine zz_alenI C ddC_append_22 h5 ?_
        refine zz_icmp_lt (tgt := 27) C ddC_append_23 rfl (fun hc => ?_) (fun hc => ?_)
        · replace h := iteT h hc
          refine zz_iconst (v := (-1)) C ddC_append_27 (by decide) ?_
          refine zz_istore_n (L1 := [(3, .int ((-1))), (0, .ref v0), (1, .int v1), (2, .int v2)]) C ddC_append_28 rfl N (by decide) rfl ?_
          refine zz_iconst (v := 0) C ddC_append_29 (by decide) ?_
          refine zz_istore (L1 := [(4, .int 0), (3, .int ((-1))), (0, .ref v0), (1, .int v1), (2, .int v2)]) C ddC_append_30 N (by decide) rfl ?_
          refine zz_aload_n C 2 ddC_append_32 rfl rfl ?_
          refine zz_getr C ddC_append_33 fl_C_9 rfl h1 (of_decide_eq_true h2) ?_
          refine zz_iload_n C 3 ddC_append_36 rfl rfl ?_
          obtain ⟨h6, h⟩ := gdN h
          refine zz_iaload C ddC_append_37 h6 ?_
          refine zz_istore (L1 := [(5, .int (giM M (grM M v0 0) (Int32.toNatClampNeg v1))), (4, .int 0), (3, .int ((-1))), (0, .ref v0), (1, .int v1), (2, .int v2)]) C ddC_append_38 N (by decide) rfl ?_
          refine zz_loc (L1 := [(0, .ref v0), (1, .int v1), (2, .int v2), (3, .int ((-1))), (4, .int 0), (5, .int (giM M (grM M v0 0) (Int32.toNatClampNeg v1)))]) [3, 4, 5, 2, 1, 0] rfl ?_
          obtain ⟨q7, hq7, h⟩ := bindN h
          refine zLC_append_40 hG C N hD hd 1000000 _ _ _ _ hq7 ?_
          · intro y8 eq7; replace eq7 := eq7.symm; subst eq7
            exact zBC_append_74 hG C N hD hd E h
        · replace h := iteF h hc
          refine zz_loc (L1 := []) [] rfl ?_
          exact zBC_append_26 hG C N hD hd E h
theorem ddH_bringToFront_0 : decode cH_bringToFront 0 = .ok (.aload_n 0, 1) := by decide +kernel
theorem ddH_bringToFront_1 : decode cH_bringToFront 1 = .ok (.iload_n 1, 1) := by decide +kernel
theorem ddH_bringToFront_2 : decode cH_bringToFront 2 = .ok (.iload_n 2, 1) := by decide +kernel
theorem ddH_bringToFront_3 : decode cH_bringToFront 3 = .ok (.invokevirtual 138, 3) := by decide +kernel
theorem ddH_bringToFront_6 : decode cH_bringToFront 6 = .ok (.istore 4, 2) := by decide +kernel
theorem ddH_bringToFront_8 : decode cH_bringToFront 8 = .ok (.iconst 0, 1) := by decide +kernel
theorem ddH_bringToFront_9 : decode cH_bringToFront 9 = .ok (.istore 5, 2) := by decide +kernel
theorem ddH_bringToFront_11 : decode cH_bringToFront 11 = .ok (.iload 5, 2) := by decide +kernel
theorem ddH_bringToFront_13 : decode cH_bringToFront 13 = .ok (.bipush 16, 2) := by decide +kernel
theorem ddH_bringToFront_15 : decode cH_bringToFront 15 = .ok (.if_icmp .ge 47, 3) := by decide +kernel
theorem ddH_bringToFront_18 : decode cH_bringToFront 18 = .ok (.aload_n 0, 1) := by decide +kernel
theorem ddH_bringToFront_19 : decode cH_bringToFront 19 = .ok (.getfield 26, 3) := by decide +kernel
theorem ddH_bringToFront_22 : decode cH_bringToFront 22 = .ok (.getfield 132, 3) := by decide +kernel
theorem ddH_bringToFront_25 : decode cH_bringToFront 25 = .ok (.iload 4, 2) := by decide +kernel
theorem ddH_bringToFront_27 : decode cH_bringToFront 27 = .ok (.iaload, 1) := by decide +kernel
theorem ddH_bringToFront_28 : decode cH_bringToFront 28 = .ok (.iconst (-1), 1) := by decide +kernel
theorem ddH_bringToFront_29 : decode cH_bringToFront 29 = .ok (.if_icmp .eq 33, 3) := by decide +kernel
theorem ddH_bringToFront_32 : decode cH_bringToFront 32 = .ok (.aload_n 0, 1) := by decide +kernel
theorem ddH_bringToFront_33 : decode cH_bringToFront 33 = .ok (.getfield 26, 3) := by decide +kernel
theorem ddH_bringToFront_36 : decode cH_bringToFront 36 = .ok (.getfield 132, 3) := by decide +kernel
theorem ddH_bringToFront_39 : decode cH_bringToFront 39 = .ok (.iload 4, 2) := by decide +kernel
theorem ddH_bringToFront_41 : decode cH_bringToFront 41 = .ok (.iaload, 1) := by decide +kernel
theorem ddH_bringToFront_42 : decode cH_bringToFront 42 = .ok (.iload_n 3, 1) := by decide +kernel
theorem ddH_bringToFront_43 : decode cH_bringToFront 43 = .ok (.if_icmp .eq 19, 3) := by decide +kernel
theorem ddH_bringToFront_46 : decode cH_bringToFront 46 = .ok (.aload_n 0, 1) := by decide +kernel
theorem ddH_bringToFront_47 : decode cH_bringToFront 47 = .ok (.getfield 26, 3) := by decide +kernel
theorem ddH_bringToFront_50 : decode cH_bringToFront 50 = .ok (.iload 4, 2) := by decide +kernel
theorem ddH_bringToFront_52 : decode cH_bringToFront 52 = .ok (.invokevirtual 170, 3) := by decide +kernel
theorem ddH_bringToFront_55 : decode cH_bringToFront 55 = .ok (.pop, 1) := by decide +kernel
theorem ddH_bringToFront_56 : decode cH_bringToFront 56 = .ok (.iinc 5 1, 3) := by decide +kernel
theorem ddH_bringToFront_59 : decode cH_bringToFront 59 = .ok (.goto (-48), 3) := by decide +kernel
theorem ddH_bringToFront_62 : decode cH_bringToFront 62 = .ok (.aload_n 0, 1) := by decide +kernel
theorem ddH_bringToFront_63 : decode cH_bringToFront 63 = .ok (.getfield 9, 3) := by decide +kernel
theorem ddH_bringToFront_66 : decode cH_bringToFront 66 = .ok (.iload_n 3, 1) := by decide +kernel
theorem ddH_bringToFront_67 : decode cH_bringToFront 67 = .ok (.iaload, 1) := by decide +kernel
theorem ddH_bringToFront_68 : decode cH_bringToFront 68 = .ok (.iconst (-1), 1) := by decide +kernel
theorem ddH_bringToFront_69 : decode cH_bringToFront 69 = .ok (.if_icmp .ne 9, 3) := by decide +kernel
theorem ddH_bringToFront_72 : decode cH_bringToFront 72 = .ok (.aload_n 0, 1) := by decide +kernel
theorem ddH_bringToFront_73 : decode cH_bringToFront 73 = .ok (.iload_n 3, 1) := by decide +kernel
theorem ddH_bringToFront_74 : decode cH_bringToFront 74 = .ok (.iload_n 2, 1) := by decide +kernel
theorem ddH_bringToFront_75 : decode cH_bringToFront 75 = .ok (.invokevirtual 173, 3) := by decide +kernel
theorem ddH_bringToFront_78 : decode cH_bringToFront 78 = .ok (.aload_n 0, 1) := by decide +kernel
theorem ddH_bringToFront_79 : decode cH_bringToFront 79 = .ok (.getfield 15, 3) := by decide +kernel
theorem ddH_bringToFront_82 : decode cH_bringToFront 82 = .ok (.iload_n 3, 1) := by decide +kernel
theorem ddH_bringToFront_83 : decode cH_bringToFront 83 = .ok (.iaload, 1) := by decide +kernel
theorem ddH_bringToFront_84 : decode cH_bringToFront 84 = .ok (.iload_n 1, 1) := by decide +kernel
theorem ddH_bringToFront_85 : decode cH_bringToFront 85 = .ok (.if_icmp .eq 20, 3) := by decide +kernel
theorem ddH_bringToFront_88 : decode cH_bringToFront 88 = .ok (.aload_n 0, 1) := by decide +kernel
theorem ddH_bringToFront_89 : decode cH_bringToFront 89 = .ok (.getfield 15, 3) := by decide +kernel
theorem ddH_bringToFront_92 : decode cH_bringToFront 92 = .ok (.iload_n 3, 1) := by decide +kernel
theorem ddH_bringToFront_93 : decode cH_bringToFront 93 = .ok (.iload_n 1, 1) := by decide +kernel
theorem ddH_bringToFront_94 : decode cH_bringToFront 94 = .ok (.iastore, 1) := by decide +kernel
theorem ddH_bringToFront_95 : decode cH_bringToFront 95 = .ok (.aload_n 0, 1) := by decide +kernel
theorem ddH_bringToFront_96 : decode cH_bringToFront 96 = .ok (.getfield 26, 3) := by decide +kernel
theorem ddH_bringToFront_99 : decode cH_bringToFront 99 = .ok (.iload 4, 2) := by decide +kernel
theorem ddH_bringToFront_101 : decode cH_bringToFront 101 = .ok (.iload_n 3, 1) := by decide +kernel
theorem ddH_bringToFront_102 : decode cH_bringToFront 102 = .ok (.invokevirtual 175, 3) := by decide +kernel
theorem ddH_bringToFront_105 : decode cH_bringToFront 105 = .ok (.return_, 1) := by decide +kernel
set_option maxHeartbeats 2000000 in
theorem zBH_bringToFront_105 {G : GXM} {X : CxM} (hG : GokM G) (C : CoM G X cH_bringToFront "HomeFreed$Heap") (N : mLM X = 6) {d : Nat} (hD : dpM X = d) (hd : 2 ≤ d)  {q : Mem} (E : EnM G X none none q 0 0) {M : Mem} (h : BH_bringToFront_105 M = some q) : ZM G X 105 [] [] M 0 0 := by
  unfold BH_bringToFront_105 at h
  obtain rfl := Option.some.inj h
  exact zz_vret C E ddH_bringToFront_105
set_option maxHeartbeats 2000000 in
theorem zBH_bringToFront_78 {G : GXM} {X : CxM} (hG : GokM G) (C : CoM G X cH_bringToFront "HomeFreed$Heap") (N : mLM X = 6) {d : Nat} (hD : dpM X = d) (hd : 2 ≤ d)  {q : Mem} (E : EnM G X none none q 0 0) {v0 : Nat} {v1 : Int32} {v3 : Int32} {v4 : Int32} {M : Mem} (h : BH_bringToFront_78 v0 v1 v3 v4 M = some q) : ZM G X 78 [(0, .ref v0), (1, .int v1), (3, .int v3), (4, .int v4)] [] M 0 0 := by
  unfold BH_bringToFront_78 at h
  refine zz_aload_n C 0 ddH_bringToFront_78 rfl rfl ?_
  obtain ⟨h1, h⟩ := gdN h
  obtain ⟨h2, h⟩ := gdN h
  refine zz_getr C ddH_bringToFront_79 fl_H_15 rfl h1 (of_decide_eq_true h2) ?_
  refine zz_iload_n C 2 ddH_bringToFront_82 rfl rfl ?_
  obtain ⟨h3, h⟩ := gdN h
  refine zz_iaload C ddH_bringToFront_83 h3 ?_
  refine zz_iload_n C 1 ddH_bringToFront_84 rfl rfl ?_
  refine zz_icmp_eq (tgt := 105) C ddH_bringToFront_85 rfl (fun hc => ?_) (fun hc => ?_)
  · replace h := iteT h hc
    refine zz_loc (L1 := []) [] rfl ?_
    exact zBH_bringToFront_105 hG C N hD hd E h
  · replace h := iteF h hc
    refine zz_aload_n C 0 ddH_bringToFront_88 rfl rfl ?_
    refine zz_getr C ddH_bringToFront_89 fl_H_15 rfl h1 (of_decide_eq_true h2) ?_
    refine zz_iload_n C 2 ddH_bringToFront_92 rfl rfl ?_
    refine zz_iload_n C 1 ddH_bringToFront_93 rfl rfl ?_
    obtain ⟨h4, h⟩ := gdN h
    refine zz_iastore C ddH_bringToFront_94 h4 ?_
    refine zz_aload_n C 0 ddH_bringToFront_95 rfl rfl ?_
    obtain ⟨h5, h⟩ := gdN h
    refine zz_getr C ddH_bringToFront_96 fl_H_26 rfl h1 (of_decide_eq_true h5) ?_
    refine zz_iload C 3 ddH_bringToFront_99 rfl ?_
    refine zz_iload_n C 2 ddH_bringToFront_101 rfl rfl ?_
    obtain ⟨h7, h⟩ := gdN h
    obtain ⟨q6, hq6, h⟩ := bindN h
    refine zz_callV0 (As := [.int v4, .int v3]) C ddH_bringToFront_102 wd_730 my_C_append mv_C_append ⟨_, rfl, rfl⟩ (xC_append hG (d - 1) (by omega) hq6) (by omega) h7 rfl rfl (Nat.le_of_ble_eq_true rfl) ?_
    refine zz_loc (L1 := []) [] rfl ?_
    exact zBH_bringToFront_105 hG C N hD hd E h
set_option maxHeartbeats 2000000 in
theorem zBH_bringToFront_62 {G : GXM} {X : CxM} (hG : GokM G) (C : CoM G X cH_bringToFront "HomeFreed$Heap") (N : mLM X = 6) {d : Nat} (hD : dpM X = d) (hd : 2 ≤ d)  {q : Mem} (E : EnM G X none none q 0 0) {v0 : Nat} {v1 : Int32} {v2 : Int32} {v3 : Int32} {v4 : Int32} {M : Mem} (h : BH_bringToFront_62 v0 v1 v2 v3 v4 M = some q) : ZM G X 62 [(0, .ref v0), (1, .int v1), (2, .int v2), (3, .int v3), (4, .int v4)] [] M 0 0 := by
  unfold BH_bringToFront_62 at h
  refine zz_aload_n C 0 ddH_bringToFront_62 rfl rfl ?_
  obtain ⟨h1, h⟩ := gdN h
  obtain ⟨h2, h⟩ := gdN h
  refine zz_getr C ddH_bringToFront_63 fl_H_9 rfl h1 (of_decide_eq_true h2) ?_
  refine zz_iload_n C 3 ddH_bringToFront_66 rfl rfl ?_
  obtain ⟨h3, h⟩ := gdN h
  refine zz_iaload C ddH_bringToFront_67 h3 ?_
  refine zz_iconst (v := (-1)) C ddH_bringToFront_68 (by decide) ?_
  refine zz_icmp_ne (tgt := 78) C ddH_bringToFront_69 rfl (fun hc => ?_) (fun hc => ?_)
  · replace h := iteF h hc
    refine zz_loc (L1 := [(0, .ref v0), (1, .int v1), (3, .int v3), (4, .int v4)]) [0, 1, 3, 4] rfl ?_
    exact zBH_bringToFront_78 hG C N hD hd E h
  · replace h := iteT h hc
    refine zz_aload_n C 0 ddH_bringToFront_72 rfl rfl ?_
    refine zz_iload_n C 3 ddH_bringToFront_73 rfl rfl ?_
    refine zz_iload_n C 2 ddH_bringToFront_74 rfl rfl ?_
    obtain ⟨q4, hq4, h⟩ := bindN h
    refine zz_callV0 (As := [.int v3, .int v2]) C ddH_bringToFront_75 wd_717 my_H_fill mv_H_fill ⟨_, rfl, rfl⟩ (xH_fill hG (d - 1) (by omega) hq4) (by omega) h1 rfl rfl (Nat.le_of_ble_eq_true rfl) ?_
    refine zz_loc (L1 := [(0, .ref v0), (1, .int v1), (3, .int v3), (4, .int v4)]) [0, 1, 3, 4] rfl ?_
    exact zBH_bringToFront_78 hG C N hD hd E h
set_option maxHeartbeats 2000000 in
theorem zBH_bringToFront_11 {G : GXM} {X : CxM} (hG : GokM G) (C : CoM G X cH_bringToFront "HomeFreed$Heap") (N : mLM X = 6) {d : Nat} (hD : dpM X = d) (hd : 2 ≤ d) {v0 : Nat} {v1 : Int32} {v2 : Int32} {v3 : Int32} {v4 : Int32} {K : Nat → Int32 → Int32 → Int32 → Int32 → Int32 → Mem → Option ((Mem))} {q : (Mem)} (hK : ∀ (v5 : Int32) (M : Mem), K v0 v1 v2 v3 v4 v5 M = some q → ZM G X 11 [(0, .ref v0), (1, .int v1), (2, .int v2), (3, .int v3), (4, .int v4), (5, .int v5)] [] M 0 0) (hx0 : ∀ y : Mem, q = y → ZM G X 62 [(0, .ref v0), (1, .int v1), (2, .int v2), (3, .int v3), (4, .int v4)] [] y 0 0) {v5 : Int32} {M : Mem} (h : BH_bringToFront_11 K v0 v1 v2 v3 v4 v5 M = some q) : ZM G X 11 [(0, .ref v0), (1, .int v1), (2, .int v2), (3, .int v3), (4, .int v4), (5, .int v5)] [] M 0 0 := by
  unfold BH_bringToFront_11 at h
  refine zz_iload C 5 ddH_bringToFront_11 rfl ?_
  refine zz_bipush (v := 16) C ddH_bringToFront_13 (by decide) ?_
  refine zz_icmp_ge (tgt := 62) C ddH_bringToFront_15 rfl (fun hc => ?_) (fun hc => ?_)
  · replace h := iteT h hc
    refine zz_loc (L1 := [(0, .ref v0), (1, .int v1), (2, .int v2), (3, .int v3), (4, .int v4)]) [0, 1, 2, 3, 4] rfl ?_
    exact hx0 _ (Option.some.inj h).symm
  · replace h := iteF h hc
    refine zz_aload_n C 0 ddH_bringToFront_18 rfl rfl ?_
    obtain ⟨h1, h⟩ := gdN h
    obtain ⟨h2, h⟩ := gdN h
    refine zz_getr C ddH_bringToFront_19 fl_H_26 rfl h1 (of_decide_eq_true h2) ?_
    obtain ⟨h3, h⟩ := gdN h
    obtain ⟨h4, h⟩ := gdN h
    refine zz_getr C ddH_bringToFront_22 fl_H_132 rfl h3 (of_decide_eq_true h4) ?_
    refine zz_iload C 4 ddH_bringToFront_25 rfl ?_
    obtain ⟨h5, h⟩ := gdN h
    refine zz_iaload C ddH_bringToFront_27 h5 ?_
    refine zz_iconst (v := (-1)) C ddH_bringToFront_28 (by decide) ?_
    refine zz_icmp_eq (tgt := 62) C ddH_bringToFront_29 rfl (fun hc => ?_) (fun hc => ?_)
    · replace h := iteT h hc
      refine zz_loc (L1 := [(0, .ref v0), (1, .int v1), (2, .int v2), (3, .int v3), (4, .int v4)]) [0, 1, 2, 3, 4] rfl ?_
      exact hx0 _ (Option.some.inj h).symm
    · replace h := iteF h hc
      refine zz_aload_n C 0 ddH_bringToFront_32 rfl rfl ?_
      refine zz_getr C ddH_bringToFront_33 fl_H_26 rfl h1 (of_decide_eq_true h2) ?_
      refine zz_getr C ddH_bringToFront_36 fl_H_132 rfl h3 (of_decide_eq_true h4) ?_
      refine zz_iload C 4 ddH_bringToFront_39 rfl ?_
      refine zz_iaload C ddH_bringToFront_41 h5 ?_
      refine zz_iload_n C 3 ddH_bringToFront_42 rfl rfl ?_
      refine zz_icmp_eq (tgt := 62) C ddH_bringToFront_43 rfl (fun hc => ?_) (fun hc => ?_)
      · replace h := iteT h hc
        refine zz_loc (L1 := [(0, .ref v0), (1, .int v1), (2, .int v2), (3, .int v3), (4, .int v4)]) [0, 1, 2, 3, 4] rfl ?_
        exact hx0 _ (Option.some.inj h).symm
      · replace h := iteF h hc
        refine zz_aload_n C 0 ddH_bringToFront_46 rfl rfl ?_
        refine zz_getr C ddH_bringToFront_47 fl_H_26 rfl h1 (of_decide_eq_true h2) ?_
        refine zz_iload C 4 ddH_bringToFront_50 rfl ?_
        obtain ⟨q6, hq6, h⟩ := bindN h
        refine zz_callV0 (As := [.int v4]) C ddH_bringToFront_52 wd_713 my_C_pop mv_C_pop ⟨_, rfl, rfl⟩ (xC_pop hG (d - 1) (by omega) hq6) (by omega) h3 rfl rfl (Nat.le_of_ble_eq_true rfl) ?_
        refine zz_pop C ddH_bringToFront_55 rfl ?_
        refine zz_iinc (v := v5 + 1) (L1 := [(5, .int (v5 + 1)), (0, .ref v0), (1, .int v1), (2, .int v2), (3, .int v3), (4, .int v4)]) C 5 ddH_bringToFront_56 rfl rfl N (by decide) rfl ?_
        refine zz_goto (tgt := 11) C ddH_bringToFront_59 rfl ?_
        refine zz_loc (L1 := [(0, .ref v0), (1, .int v1), (2, .int v2), (3, .int v3), (4, .int v4), (5, .int (v5 + 1))]) [1, 2, 3, 4, 5, 0] rfl ?_
        exact hK _ _ h
set_option maxHeartbeats 2000000 in
theorem zLH_bringToFront_11 {G : GXM} {X : CxM} (hG : GokM G) (C : CoM G X cH_bringToFront "HomeFreed$Heap") (N : mLM X = 6) {d : Nat} (hD : dpM X = d) (hd : 2 ≤ d) {v0 : Nat} {v1 : Int32} {v2 : Int32} {v3 : Int32} {v4 : Int32} {q : (Mem)} : ∀ (f : Nat) (v5 : Int32) (M : Mem), LH_bringToFront_11 f v0 v1 v2 v3 v4 v5 M = some q → (hx0 : ∀ y : Mem, q = y → ZM G X 62 [(0, .ref v0), (1, .int v1), (2, .int v2), (3, .int v3), (4, .int v4)] [] y 0 0) → ZM G X 11 [(0, .ref v0), (1, .int v1), (2, .int v2), (3, .int v3), (4, .int v4), (5, .int v5)] [] M 0 0 := by
  intro f
  induction f with
  | zero => intro v5 M h; cases h
  | succ f ih =>
    intro v5 M h hx0
    exact zBH_bringToFront_11 hG C N hD hd (K := LH_bringToFront_11 f) (q := q) (fun v5 M h => ih v5 M h hx0) hx0 h
set_option maxHeartbeats 2000000 in
theorem xH_bringToFront {G : GXM} {l : Launch} (hG : GokM G) (d : Nat) (hd : 2 ≤ d) {v0 : Nat} {v1 : Int32} {v2 : Int32} {v3 : Int32} {M : Mem} {q : Mem} (h : fH_bringToFront v0 v1 v2 v3 M = some q) : ExM G l d 0 0 yH_bringToFront cH_bringToFront 6 none [.ref v0, .int v1, .int v2, .int v3] M none q := by
  refine ex_of hG (by decide +kernel) (Nat.le_of_ble_eq_true rfl) ?_
  intro X hl C E N hD hn
  show ZM G X 0 [(0, .ref v0), (1, .int v1), (2, .int v2), (3, .int v3)] [] M 0 0
  unfold fH_bringToFront at h
  refine zz_aload_n C 0 ddH_bringToFront_0 rfl rfl ?_
  refine zz_iload_n C 1 ddH_bringToFront_1 rfl rfl ?_
  refine zz_iload_n C 2 ddH_bringToFront_2 rfl rfl ?_
  obtain ⟨h2, h⟩ := gdN h
  obtain ⟨q1, hq1, h⟩ := bindN h
  refine zz_callV0 (As := [.int v1, .int v2]) C ddH_bringToFront_3 wd_669 my_H_queueOf mv_H_queueOf ⟨_, rfl, rfl⟩ (xH_queueOf hG (d - 1) (by omega) hq1) (by omega) h2 rfl rfl (Nat.le_of_ble_eq_true rfl) ?_
  refine zz_istore (L1 := [(4, .int q1.1), (0, .ref v0), (1, .int v1), (2, .int v2), (3, .int v3)]) C ddH_bringToFront_6 N (by decide) rfl ?_
  refine zz_iconst (v := 0) C ddH_bringToFront_8 (by decide) ?_
  refine zz_istore (L1 := [(5, .int 0), (4, .int q1.1), (0, .ref v0), (1, .int v1), (2, .int v2), (3, .int v3)]) C ddH_bringToFront_9 N (by decide) rfl ?_
  refine zz_loc (L1 := [(0, .ref v0), (1, .int v1), (2, .int v2), (3, .int v3), (4, .int q1.1), (5, .int 0)]) [2, 3, 4, 5, 1, 0] rfl ?_
  obtain ⟨q3, hq3, h⟩ := bindN h
  refine zLH_bringToFront_11 hG C N hD hd 1000000 _ _ hq3 ?_
  · intro y4 eq3; replace eq3 := eq3.symm; subst eq3
    exact zBH_bringToFront_62 hG C N hD hd E h
theorem ddC_moveAhead_0 : decode cC_moveAhead 0 = .ok (.iload_n 1, 1) := by decide +kernel
theorem ddC_moveAhead_1 : decode cC_moveAhead 1 = .ok (.ifCond .lt 40, 3) := by decide +kernel
theorem ddC_moveAhead_4 : decode cC_moveAhead 4 = .ok (.iload_n 1, 1) := by decide +kernel
theorem ddC_moveAhead_5 : decode cC_moveAhead 5 = .ok (.aload_n 0, 1) := by decide +kernel
theorem ddC_moveAhead_6 : decode cC_moveAhead 6 = .ok (.getfield 9, 3) := by decide +kernel
theorem ddC_moveAhead_9 : decode cC_moveAhead 9 = .ok (.arraylength, 1) := by decide +kernel
theorem ddC_moveAhead_10 : decode cC_moveAhead 10 = .ok (.if_icmp .ge 31, 3) := by decide +kernel
theorem ddC_moveAhead_13 : decode cC_moveAhead 13 = .ok (.iload_n 2, 1) := by decide +kernel
theorem ddC_moveAhead_14 : decode cC_moveAhead 14 = .ok (.ifCond .lt 27, 3) := by decide +kernel
theorem ddC_moveAhead_17 : decode cC_moveAhead 17 = .ok (.iload_n 2, 1) := by decide +kernel
theorem ddC_moveAhead_18 : decode cC_moveAhead 18 = .ok (.aload_n 0, 1) := by decide +kernel
theorem ddC_moveAhead_19 : decode cC_moveAhead 19 = .ok (.getfield 9, 3) := by decide +kernel
theorem ddC_moveAhead_22 : decode cC_moveAhead 22 = .ok (.arraylength, 1) := by decide +kernel
theorem ddC_moveAhead_23 : decode cC_moveAhead 23 = .ok (.if_icmp .ge 18, 3) := by decide +kernel
theorem ddC_moveAhead_26 : decode cC_moveAhead 26 = .ok (.iload_n 1, 1) := by decide +kernel
theorem ddC_moveAhead_27 : decode cC_moveAhead 27 = .ok (.iload_n 2, 1) := by decide +kernel
theorem ddC_moveAhead_28 : decode cC_moveAhead 28 = .ok (.if_icmp .eq 13, 3) := by decide +kernel
theorem ddC_moveAhead_31 : decode cC_moveAhead 31 = .ok (.aload_n 0, 1) := by decide +kernel
theorem ddC_moveAhead_32 : decode cC_moveAhead 32 = .ok (.getfield 9, 3) := by decide +kernel
theorem ddC_moveAhead_35 : decode cC_moveAhead 35 = .ok (.iload_n 1, 1) := by decide +kernel
theorem ddC_moveAhead_36 : decode cC_moveAhead 36 = .ok (.iaload, 1) := by decide +kernel
theorem ddC_moveAhead_37 : decode cC_moveAhead 37 = .ok (.iconst (-1), 1) := by decide +kernel
theorem ddC_moveAhead_38 : decode cC_moveAhead 38 = .ok (.if_icmp .ne 4, 3) := by decide +kernel
theorem ddC_moveAhead_41 : decode cC_moveAhead 41 = .ok (.return_, 1) := by decide +kernel
theorem ddC_moveAhead_42 : decode cC_moveAhead 42 = .ok (.iconst (-1), 1) := by decide +kernel
theorem ddC_moveAhead_43 : decode cC_moveAhead 43 = .ok (.istore_n 3, 1) := by decide +kernel
theorem ddC_moveAhead_44 : decode cC_moveAhead 44 = .ok (.iconst 0, 1) := by decide +kernel
theorem ddC_moveAhead_45 : decode cC_moveAhead 45 = .ok (.istore 4, 2) := by decide +kernel
theorem ddC_moveAhead_47 : decode cC_moveAhead 47 = .ok (.aload_n 0, 1) := by decide +kernel
theorem ddC_moveAhead_48 : decode cC_moveAhead 48 = .ok (.getfield 9, 3) := by decide +kernel
theorem ddC_moveAhead_51 : decode cC_moveAhead 51 = .ok (.iload_n 1, 1) := by decide +kernel
theorem ddC_moveAhead_52 : decode cC_moveAhead 52 = .ok (.iaload, 1) := by decide +kernel
theorem ddC_moveAhead_53 : decode cC_moveAhead 53 = .ok (.istore 5, 2) := by decide +kernel
theorem ddC_moveAhead_55 : decode cC_moveAhead 55 = .ok (.iload 4, 2) := by decide +kernel
theorem ddC_moveAhead_57 : decode cC_moveAhead 57 = .ok (.aload_n 0, 1) := by decide +kernel
theorem ddC_moveAhead_58 : decode cC_moveAhead 58 = .ok (.getfield 18, 3) := by decide +kernel
theorem ddC_moveAhead_61 : decode cC_moveAhead 61 = .ok (.arraylength, 1) := by decide +kernel
theorem ddC_moveAhead_62 : decode cC_moveAhead 62 = .ok (.if_icmp .ge 35, 3) := by decide +kernel
theorem ddC_moveAhead_65 : decode cC_moveAhead 65 = .ok (.iload 5, 2) := by decide +kernel
theorem ddC_moveAhead_67 : decode cC_moveAhead 67 = .ok (.iconst (-1), 1) := by decide +kernel
theorem ddC_moveAhead_68 : decode cC_moveAhead 68 = .ok (.if_icmp .eq 29, 3) := by decide +kernel
theorem ddC_moveAhead_71 : decode cC_moveAhead 71 = .ok (.aload_n 0, 1) := by decide +kernel
theorem ddC_moveAhead_72 : decode cC_moveAhead 72 = .ok (.getfield 21, 3) := by decide +kernel
theorem ddC_moveAhead_75 : decode cC_moveAhead 75 = .ok (.iload 5, 2) := by decide +kernel
theorem ddC_moveAhead_77 : decode cC_moveAhead 77 = .ok (.iload_n 2, 1) := by decide +kernel
theorem ddC_moveAhead_78 : decode cC_moveAhead 78 = .ok (.iastore, 1) := by decide +kernel
theorem ddC_moveAhead_79 : decode cC_moveAhead 79 = .ok (.iload 5, 2) := by decide +kernel
theorem ddC_moveAhead_81 : decode cC_moveAhead 81 = .ok (.istore_n 3, 1) := by decide +kernel
theorem ddC_moveAhead_82 : decode cC_moveAhead 82 = .ok (.iinc 4 1, 3) := by decide +kernel
theorem ddC_moveAhead_85 : decode cC_moveAhead 85 = .ok (.aload_n 0, 1) := by decide +kernel
theorem ddC_moveAhead_86 : decode cC_moveAhead 86 = .ok (.getfield 18, 3) := by decide +kernel
theorem ddC_moveAhead_89 : decode cC_moveAhead 89 = .ok (.iload 5, 2) := by decide +kernel
theorem ddC_moveAhead_91 : decode cC_moveAhead 91 = .ok (.iaload, 1) := by decide +kernel
theorem ddC_moveAhead_92 : decode cC_moveAhead 92 = .ok (.istore 5, 2) := by decide +kernel
theorem ddC_moveAhead_94 : decode cC_moveAhead 94 = .ok (.goto (-39), 3) := by decide +kernel
theorem ddC_moveAhead_97 : decode cC_moveAhead 97 = .ok (.iload_n 3, 1) := by decide +kernel
theorem ddC_moveAhead_98 : decode cC_moveAhead 98 = .ok (.iconst (-1), 1) := by decide +kernel
theorem ddC_moveAhead_99 : decode cC_moveAhead 99 = .ok (.if_icmp .eq 15, 3) := by decide +kernel
theorem ddC_moveAhead_102 : decode cC_moveAhead 102 = .ok (.aload_n 0, 1) := by decide +kernel
theorem ddC_moveAhead_103 : decode cC_moveAhead 103 = .ok (.getfield 18, 3) := by decide +kernel
theorem ddC_moveAhead_106 : decode cC_moveAhead 106 = .ok (.iload_n 3, 1) := by decide +kernel
theorem ddC_moveAhead_107 : decode cC_moveAhead 107 = .ok (.aload_n 0, 1) := by decide +kernel
theorem ddC_moveAhead_108 : decode cC_moveAhead 108 = .ok (.getfield 9, 3) := by decide +kernel
theorem ddC_moveAhead_111 : decode cC_moveAhead 111 = .ok (.iload_n 2, 1) := by decide +kernel
theorem ddC_moveAhead_112 : decode cC_moveAhead 112 = .ok (.iaload, 1) := by decide +kernel
theorem ddC_moveAhead_113 : decode cC_moveAhead 113 = .ok (.iastore, 1) := by decide +kernel
theorem ddC_moveAhead_114 : decode cC_moveAhead 114 = .ok (.aload_n 0, 1) := by decide +kernel
theorem ddC_moveAhead_115 : decode cC_moveAhead 115 = .ok (.getfield 9, 3) := by decide +kernel
theorem ddC_moveAhead_118 : decode cC_moveAhead 118 = .ok (.iload_n 2, 1) := by decide +kernel
theorem ddC_moveAhead_119 : decode cC_moveAhead 119 = .ok (.aload_n 0, 1) := by decide +kernel
theorem ddC_moveAhead_120 : decode cC_moveAhead 120 = .ok (.getfield 9, 3) := by decide +kernel
theorem ddC_moveAhead_123 : decode cC_moveAhead 123 = .ok (.iload_n 1, 1) := by decide +kernel
theorem ddC_moveAhead_124 : decode cC_moveAhead 124 = .ok (.iaload, 1) := by decide +kernel
theorem ddC_moveAhead_125 : decode cC_moveAhead 125 = .ok (.iastore, 1) := by decide +kernel
theorem ddC_moveAhead_126 : decode cC_moveAhead 126 = .ok (.aload_n 0, 1) := by decide +kernel
theorem ddC_moveAhead_127 : decode cC_moveAhead 127 = .ok (.getfield 15, 3) := by decide +kernel
theorem ddC_moveAhead_130 : decode cC_moveAhead 130 = .ok (.iload_n 2, 1) := by decide +kernel
theorem ddC_moveAhead_131 : decode cC_moveAhead 131 = .ok (.dup2, 1) := by decide +kernel
theorem ddC_moveAhead_132 : decode cC_moveAhead 132 = .ok (.iaload, 1) := by decide +kernel
theorem ddC_moveAhead_133 : decode cC_moveAhead 133 = .ok (.aload_n 0, 1) := by decide +kernel
theorem ddC_moveAhead_134 : decode cC_moveAhead 134 = .ok (.getfield 15, 3) := by decide +kernel
theorem ddC_moveAhead_137 : decode cC_moveAhead 137 = .ok (.iload_n 1, 1) := by decide +kernel
theorem ddC_moveAhead_138 : decode cC_moveAhead 138 = .ok (.iaload, 1) := by decide +kernel
theorem ddC_moveAhead_139 : decode cC_moveAhead 139 = .ok (.iadd, 1) := by decide +kernel
theorem ddC_moveAhead_140 : decode cC_moveAhead 140 = .ok (.iastore, 1) := by decide +kernel
theorem ddC_moveAhead_141 : decode cC_moveAhead 141 = .ok (.aload_n 0, 1) := by decide +kernel
theorem ddC_moveAhead_142 : decode cC_moveAhead 142 = .ok (.getfield 9, 3) := by decide +kernel
theorem ddC_moveAhead_145 : decode cC_moveAhead 145 = .ok (.iload_n 1, 1) := by decide +kernel
theorem ddC_moveAhead_146 : decode cC_moveAhead 146 = .ok (.iconst (-1), 1) := by decide +kernel
theorem ddC_moveAhead_147 : decode cC_moveAhead 147 = .ok (.iastore, 1) := by decide +kernel
theorem ddC_moveAhead_148 : decode cC_moveAhead 148 = .ok (.aload_n 0, 1) := by decide +kernel
theorem ddC_moveAhead_149 : decode cC_moveAhead 149 = .ok (.getfield 15, 3) := by decide +kernel
theorem ddC_moveAhead_152 : decode cC_moveAhead 152 = .ok (.iload_n 1, 1) := by decide +kernel
theorem ddC_moveAhead_153 : decode cC_moveAhead 153 = .ok (.iconst 0, 1) := by decide +kernel
theorem ddC_moveAhead_154 : decode cC_moveAhead 154 = .ok (.iastore, 1) := by decide +kernel
theorem ddC_moveAhead_155 : decode cC_moveAhead 155 = .ok (.return_, 1) := by decide +kernel
set_option maxHeartbeats 2000000 in
theorem zBC_moveAhead_114 {G : GXM} {X : CxM} (hG : GokM G) (C : CoM G X cC_moveAhead "HomeFreed$Chains") (N : mLM X = 6) {d : Nat} (hD : dpM X = d) (hd : 0 ≤ d)  {q : Mem} (E : EnM G X none none q 0 0) {v0 : Nat} {v1 : Int32} {v2 : Int32} {M : Mem} (h : BC_moveAhead_114 v0 v1 v2 M = some q) : ZM G X 114 [(0, .ref v0), (1, .int v1), (2, .int v2)] [] M 0 0 := by
  unfold BC_moveAhead_114 at h
  refine zz_aload_n C 0 ddC_moveAhead_114 rfl rfl ?_
  obtain ⟨h1, h⟩ := gdN h
  obtain ⟨h2, h⟩ := gdN h
  refine zz_getr C ddC_moveAhead_115 fl_C_9 rfl h1 (of_decide_eq_true h2) ?_
  refine zz_iload_n C 2 ddC_moveAhead_118 rfl rfl ?_
  refine zz_aload_n C 0 ddC_moveAhead_119 rfl rfl ?_
  refine zz_getr C ddC_moveAhead_120 fl_C_9 rfl h1 (of_decide_eq_true h2) ?_
  refine zz_iload_n C 1 ddC_moveAhead_123 rfl rfl ?_
  obtain ⟨h3, h⟩ := gdN h
  refine zz_iaload C ddC_moveAhead_124 h3 ?_
  obtain ⟨h4, h⟩ := gdN h
  refine zz_iastore C ddC_moveAhead_125 h4 ?_
  refine zz_aload_n C 0 ddC_moveAhead_126 rfl rfl ?_
  obtain ⟨h5, h⟩ := gdN h
  refine zz_getr C ddC_moveAhead_127 fl_C_15 rfl h1 (of_decide_eq_true h5) ?_
  refine zz_iload_n C 2 ddC_moveAhead_130 rfl rfl ?_
  refine zz_dup2 C ddC_moveAhead_131 rfl rfl ?_
  obtain ⟨h6, h⟩ := gdN h
  refine zz_iaload C ddC_moveAhead_132 h6 ?_
  refine zz_aload_n C 0 ddC_moveAhead_133 rfl rfl ?_
  refine zz_getr C ddC_moveAhead_134 fl_C_15 rfl h1 (of_decide_eq_true h5) ?_
  refine zz_iload_n C 1 ddC_moveAhead_137 rfl rfl ?_
  obtain ⟨h7, h⟩ := gdN h
  refine zz_iaload C ddC_moveAhead_138 h7 ?_
  refine zz_iadd C ddC_moveAhead_139 ?_
  obtain ⟨h8, h⟩ := gdN h
  refine zz_iastore C ddC_moveAhead_140 h8 ?_
  refine zz_aload_n C 0 ddC_moveAhead_141 rfl rfl ?_
  refine zz_getr C ddC_moveAhead_142 fl_C_9 rfl h1 (of_decide_eq_true h2) ?_
  refine zz_iload_n C 1 ddC_moveAhead_145 rfl rfl ?_
  refine zz_iconst (v := (-1)) C ddC_moveAhead_146 (by decide) ?_
  obtain ⟨h9, h⟩ := gdN h
  refine zz_iastore C ddC_moveAhead_147 h9 ?_
  refine zz_aload_n C 0 ddC_moveAhead_148 rfl rfl ?_
  refine zz_getr C ddC_moveAhead_149 fl_C_15 rfl h1 (of_decide_eq_true h5) ?_
  refine zz_iload_n C 1 ddC_moveAhead_152 rfl rfl ?_
  refine zz_iconst (v := 0) C ddC_moveAhead_153 (by decide) ?_
  obtain ⟨h10, h⟩ := gdN h
  refine zz_iastore C ddC_moveAhead_154 h10 ?_
  obtain rfl := Option.some.inj h
  exact zz_vret C E ddC_moveAhead_155
set_option maxHeartbeats 2000000 in
theorem zBC_moveAhead_97 {G : GXM} {X : CxM} (hG : GokM G) (C : CoM G X cC_moveAhead "HomeFreed$Chains") (N : mLM X = 6) {d : Nat} (hD : dpM X = d) (hd : 0 ≤ d)  {q : Mem} (E : EnM G X none none q 0 0) {v0 : Nat} {v1 : Int32} {v2 : Int32} {v3 : Int32} {M : Mem} (h : BC_moveAhead_97 v0 v1 v2 v3 M = some q) : ZM G X 97 [(0, .ref v0), (1, .int v1), (2, .int v2), (3, .int v3)] [] M 0 0 := by
  unfold BC_moveAhead_97 at h
  refine zz_iload_n C 3 ddC_moveAhead_97 rfl rfl ?_
  refine zz_iconst (v := (-1)) C ddC_moveAhead_98 (by decide) ?_
  refine zz_icmp_eq (tgt := 114) C ddC_moveAhead_99 rfl (fun hc => ?_) (fun hc => ?_)
  · replace h := iteT h hc
    refine zz_loc (L1 := [(0, .ref v0), (1, .int v1), (2, .int v2)]) [0, 1, 2] rfl ?_
    exact zBC_moveAhead_114 hG C N hD hd E h
  · replace h := iteF h hc
    refine zz_aload_n C 0 ddC_moveAhead_102 rfl rfl ?_
    obtain ⟨h1, h⟩ := gdN h
    obtain ⟨h2, h⟩ := gdN h
    refine zz_getr C ddC_moveAhead_103 fl_C_18 rfl h1 (of_decide_eq_true h2) ?_
    refine zz_iload_n C 3 ddC_moveAhead_106 rfl rfl ?_
    refine zz_aload_n C 0 ddC_moveAhead_107 rfl rfl ?_
    obtain ⟨h3, h⟩ := gdN h
    refine zz_getr C ddC_moveAhead_108 fl_C_9 rfl h1 (of_decide_eq_true h3) ?_
    refine zz_iload_n C 2 ddC_moveAhead_111 rfl rfl ?_
    obtain ⟨h4, h⟩ := gdN h
    refine zz_iaload C ddC_moveAhead_112 h4 ?_
    obtain ⟨h5, h⟩ := gdN h
    refine zz_iastore C ddC_moveAhead_113 h5 ?_
    refine zz_loc (L1 := [(0, .ref v0), (1, .int v1), (2, .int v2)]) [0, 1, 2] rfl ?_
    exact zBC_moveAhead_114 hG C N hD hd E h
set_option maxHeartbeats 2000000 in
theorem zBC_moveAhead_55 {G : GXM} {X : CxM} (hG : GokM G) (C : CoM G X cC_moveAhead "HomeFreed$Chains") (N : mLM X = 6) {d : Nat} (hD : dpM X = d) (hd : 0 ≤ d) {v0 : Nat} {v1 : Int32} {v2 : Int32} {K : Nat → Int32 → Int32 → Int32 → Int32 → Int32 → Mem → Option ((Int32 × Mem))} {q : (Int32 × Mem)} (hK : ∀ (v3 : Int32) (v4 : Int32) (v5 : Int32) (M : Mem), K v0 v1 v2 v3 v4 v5 M = some q → ZM G X 55 [(0, .ref v0), (1, .int v1), (2, .int v2), (3, .int v3), (4, .int v4), (5, .int v5)] [] M 0 0) (hx0 : ∀ y : Int32 × Mem, q = y → ZM G X 97 [(0, .ref v0), (1, .int v1), (2, .int v2), (3, .int y.1)] [] y.2 0 0) {v3 : Int32} {v4 : Int32} {v5 : Int32} {M : Mem} (h : BC_moveAhead_55 K v0 v1 v2 v3 v4 v5 M = some q) : ZM G X 55 [(0, .ref v0), (1, .int v1), (2, .int v2), (3, .int v3), (4, .int v4), (5, .int v5)] [] M 0 0 := by
  unfold BC_moveAhead_55 at h
  refine zz_iload C 4 ddC_moveAhead_55 rfl ?_
  refine zz_aload_n C 0 ddC_moveAhead_57 rfl rfl ?_
  obtain ⟨h1, h⟩ := gdN h
  obtain ⟨h2, h⟩ := gdN h
  refine zz_getr C ddC_moveAhead_58 fl_C_18 rfl h1 (of_decide_eq_true h2) ?_
  obtain ⟨h3, h⟩ := gdN h
  refine zz_alenI C ddC_moveAhead_61 h3 ?_
  refine zz_icmp_ge (tgt := 97) C ddC_moveAhead_62 rfl (fun hc => ?_) (fun hc => ?_)
  · replace h := iteT h hc
    refine zz_loc (L1 := [(0, .ref v0), (1, .int v1), (2, .int v2), (3, .int v3)]) [0, 1, 2, 3] rfl ?_
    exact hx0 _ (Option.some.inj h).symm
  · replace h := iteF h hc
    refine zz_iload C 5 ddC_moveAhead_65 rfl ?_
    refine zz_iconst (v := (-1)) C ddC_moveAhead_67 (by decide) ?_
    refine zz_icmp_eq (tgt := 97) C ddC_moveAhead_68 rfl (fun hc => ?_) (fun hc => ?_)
    · replace h := iteT h hc
      refine zz_loc (L1 := [(0, .ref v0), (1, .int v1), (2, .int v2), (3, .int v3)]) [0, 1, 2, 3] rfl ?_
      exact hx0 _ (Option.some.inj h).symm
    · replace h := iteF h hc
      refine zz_aload_n C 0 ddC_moveAhead_71 rfl rfl ?_
      obtain ⟨h4, h⟩ := gdN h
      refine zz_getr C ddC_moveAhead_72 fl_C_21 rfl h1 (of_decide_eq_true h4) ?_
      refine zz_iload C 5 ddC_moveAhead_75 rfl ?_
      refine zz_iload_n C 2 ddC_moveAhead_77 rfl rfl ?_
      obtain ⟨h5, h⟩ := gdN h
      refine zz_iastore C ddC_moveAhead_78 h5 ?_
      refine zz_iload C 5 ddC_moveAhead_79 rfl ?_
      refine zz_istore_n (L1 := [(3, .int v5), (0, .ref v0), (1, .int v1), (2, .int v2), (4, .int v4), (5, .int v5)]) C ddC_moveAhead_81 rfl N (by decide) rfl ?_
      refine zz_iinc (v := v4 + 1) (L1 := [(4, .int (v4 + 1)), (3, .int v5), (0, .ref v0), (1, .int v1), (2, .int v2), (5, .int v5)]) C 4 ddC_moveAhead_82 rfl rfl N (by decide) rfl ?_
      refine zz_aload_n C 2 ddC_moveAhead_85 rfl rfl ?_
      refine zz_getr C ddC_moveAhead_86 fl_C_18 rfl h1 (of_decide_eq_true h2) ?_
      refine zz_iload C 5 ddC_moveAhead_89 rfl ?_
      obtain ⟨h6, h⟩ := gdN h
      refine zz_iaload C ddC_moveAhead_91 h6 ?_
      refine zz_istore (L1 := [(5, .int (giM (siM M (grM M v0 3) (Int32.toNatClampNeg v5) v2) (grM M v0 2) (Int32.toNatClampNeg v5))), (4, .int (v4 + 1)), (3, .int v5), (0, .ref v0), (1, .int v1), (2, .int v2)]) C ddC_moveAhead_92 N (by decide) rfl ?_
      refine zz_goto (tgt := 55) C ddC_moveAhead_94 rfl ?_
      refine zz_loc (L1 := [(0, .ref v0), (1, .int v1), (2, .int v2), (3, .int v5), (4, .int (v4 + 1)), (5, .int (giM (siM M (grM M v0 3) (Int32.toNatClampNeg v5) v2) (grM M v0 2) (Int32.toNatClampNeg v5)))]) [3, 4, 5, 2, 1, 0] rfl ?_
      exact hK _ _ _ _ h
set_option maxHeartbeats 2000000 in
theorem zLC_moveAhead_55 {G : GXM} {X : CxM} (hG : GokM G) (C : CoM G X cC_moveAhead "HomeFreed$Chains") (N : mLM X = 6) {d : Nat} (hD : dpM X = d) (hd : 0 ≤ d) {v0 : Nat} {v1 : Int32} {v2 : Int32} {q : (Int32 × Mem)} : ∀ (f : Nat) (v3 : Int32) (v4 : Int32) (v5 : Int32) (M : Mem), LC_moveAhead_55 f v0 v1 v2 v3 v4 v5 M = some q → (hx0 : ∀ y : Int32 × Mem, q = y → ZM G X 97 [(0, .ref v0), (1, .int v1), (2, .int v2), (3, .int y.1)] [] y.2 0 0) → ZM G X 55 [(0, .ref v0), (1, .int v1), (2, .int v2), (3, .int v3), (4, .int v4), (5, .int v5)] [] M 0 0 := by
  intro f
  induction f with
  | zero => intro v3 v4 v5 M h; cases h
  | succ f ih =>
    intro v3 v4 v5 M h hx0
    exact zBC_moveAhead_55 hG C N hD hd (K := LC_moveAhead_55 f) (q := q) (fun v3 v4 v5 M h => ih v3 v4 v5 M h hx0) hx0 h
set_option maxHeartbeats 2000000 in
theorem zBC_moveAhead_41 {G : GXM} {X : CxM} (hG : GokM G) (C : CoM G X cC_moveAhead "HomeFreed$Chains") (N : mLM X = 6) {d : Nat} (hD : dpM X = d) (hd : 0 ≤ d)  {q : Mem} (E : EnM G X none none q 0 0) {M : Mem} (h : BC_moveAhead_41 M = some q) : ZM G X 41 [] [] M 0 0 := by
  unfold BC_moveAhead_41 at h
  obtain rfl := Option.some.inj h
  exact zz_vret C E ddC_moveAhead_41
set_option maxHeartbeats 2000000 in
theorem xC_moveAhead {G : GXM} {l : Launch} (hG : GokM G) (d : Nat) (hd : 0 ≤ d) {v0 : Nat} {v1 : Int32} {v2 : Int32} {M : Mem} {q : Mem} (h : fC_moveAhead v0 v1 v2 M = some q) : ExM G l d 0 0 yC_moveAhead cC_moveAhead 6 none [.ref v0, .int v1, .int v2] M none q := by
  refine ex_of hG (by decide +kernel) (Nat.le_of_ble_eq_true rfl) ?_
  intro X hl C E N hD hn
  show ZM G X 0 [(0, .ref v0), (1, .int v1), (2, .int v2)] [] M 0 0
  unfold fC_moveAhead at h
  refine zz_iload_n C 1 ddC_moveAhead_0 rfl rfl ?_
  refine zz_if_lt (tgt := 41) C ddC_moveAhead_1 rfl (fun hc => ?_) (fun hc => ?_)
  · replace h := iteT h hc
    refine zz_loc (L1 := []) [] rfl ?_
    exact zBC_moveAhead_41 hG C N hD hd E h
  · replace h := iteF h hc
    refine zz_iload_n C 1 ddC_moveAhead_4 rfl rfl ?_
    refine zz_aload_n C 0 ddC_moveAhead_5 rfl rfl ?_
    obtain ⟨h1, h⟩ := gdN h
    obtain ⟨h2, h⟩ := gdN h
    refine zz_getr C ddC_moveAhead_6 fl_C_9 rfl h1 (of_decide_eq_true h2) ?_
    obtain ⟨h3, h⟩ := gdN h
    refine zz_alenI C ddC_moveAhead_9 h3 ?_
    refine zz_icmp_ge (tgt := 41) C ddC_moveAhead_10 rfl (fun hc => ?_) (fun hc => ?_)
    · replace h := iteT h hc
      refine zz_loc (L1 := []) [] rfl ?_
      exact zBC_moveAhead_41 hG C N hD hd E h
    · replace h := iteF h hc
      refine zz_iload_n C 2 ddC_moveAhead_13 rfl rfl ?_
      refine zz_if_lt (tgt := 41) C ddC_moveAhead_14 rfl (fun hc => ?_) (fun hc => ?_)
      · replace h := iteT h hc
        refine zz_loc (L1 := []) [] rfl ?_
        exact zBC_moveAhead_41 hG C N hD hd E h
      · replace h := iteF h hc
        refine zz_iload_n C 2 ddC_moveAhead_17 rfl rfl ?_
        refine zz_aload_n C 0 ddC_moveAhead_18 rfl rfl ?_
        refine zz_getr C ddC_moveAhead_19 fl_C_9 rfl h1 (of_decide_eq_true h2) ?_
        refine zz_alenI C ddC_moveAhead_22 h3 ?_
        refine zz_icmp_ge (tgt := 41) C ddC_moveAhead_23 rfl (fun hc => ?_) (fun hc => ?_)
        · replace h := iteT h hc
          refine zz_loc (L1 := []) [] rfl ?_
          exact zBC_moveAhead_41 hG C N hD hd E h
        · replace h := iteF h hc
          refine zz_iload_n C 1 ddC_moveAhead_26 rfl rfl ?_
          refine zz_iload_n C 2 ddC_moveAhead_27 rfl rfl ?_
          refine zz_icmp_eq (tgt := 41) C ddC_moveAhead_28 rfl (fun hc => ?_) (fun hc => ?_)
          · replace h := iteT h hc
            refine zz_loc (L1 := []) [] rfl ?_
            exact zBC_moveAhead_41 hG C N hD hd E h
          · replace h := iteF h hc
            refine zz_aload_n C 0 ddC_moveAhead_31 rfl rfl ?_
            refine zz_getr C ddC_moveAhead_32 fl_C_9 rfl h1 (of_decide_eq_true h2) ?_
            refine zz_iload_n C 1 ddC_moveAhead_35 rfl rfl ?_
            obtain ⟨h4, h⟩ := gdN h
            refine zz_iaload C ddC_moveAhead_36 h4 ?_
            refine zz_iconst (v := (-1)) C ddC_moveAhead_37 (by decide) ?_
            refine zz_icmp_ne (tgt := 42) C ddC_moveAhead_38 rfl (fun hc => ?_) (fun hc => ?_)
            · replace h := iteF h hc
              refine zz_iconst (v := (-1)) C ddC_moveAhead_42 (by decide) ?_
              refine zz_istore_n (L1 := [(3, .int ((-1))), (0, .ref v0), (1, .int v1), (2, .int v2)]) C ddC_moveAhead_43 rfl N (by decide) rfl ?_
              refine zz_iconst (v := 0) C ddC_moveAhead_44 (by decide) ?_
              refine zz_istore (L1 := [(4, .int 0), (3, .int ((-1))), (0, .ref v0), (1, .int v1), (2, .int v2)]) C ddC_moveAhead_45 N (by decide) rfl ?_
              refine zz_aload_n C 2 ddC_moveAhead_47 rfl rfl ?_
              refine zz_getr C ddC_moveAhead_48 fl_C_9 rfl h1 (of_decide_eq_true h2) ?_
              refine zz_iload_n C 3 ddC_moveAhead_51 rfl rfl ?_
              refine zz_iaload C ddC_moveAhead_52 h4 ?_
              refine zz_istore (L1 := [(5, .int (giM M (grM M v0 0) (Int32.toNatClampNeg v1))), (4, .int 0), (3, .int ((-1))), (0, .ref v0), (1, .int v1), (2, .int v2)]) C ddC_moveAhead_53 N (by decide) rfl ?_
              refine zz_loc (L1 := [(0, .ref v0), (1, .int v1), (2, .int v2), (3, .int ((-1))), (4, .int 0), (5, .int (giM M (grM M v0 0) (Int32.toNatClampNeg v1)))]) [3, 4, 5, 2, 1, 0] rfl ?_
              obtain ⟨q5, hq5, h⟩ := bindN h
              refine zLC_moveAhead_55 hG C N hD hd 1000000 _ _ _ _ hq5 ?_
              · intro y6 eq5; replace eq5 := eq5.symm; subst eq5
                exact zBC_moveAhead_97 hG C N hD hd E h
            · replace h := iteT h hc
              refine zz_loc (L1 := []) [] rfl ?_
              exact zBC_moveAhead_41 hG C N hD hd E h
theorem ddH_takeReady_0 : decode cH_takeReady 0 = .ok (.aload_n 0, 1) := by decide +kernel
theorem ddH_takeReady_1 : decode cH_takeReady 1 = .ok (.iload_n 1, 1) := by decide +kernel
theorem ddH_takeReady_2 : decode cH_takeReady 2 = .ok (.iconst 0, 1) := by decide +kernel
theorem ddH_takeReady_3 : decode cH_takeReady 3 = .ok (.invokevirtual 126, 3) := by decide +kernel
theorem ddH_takeReady_6 : decode cH_takeReady 6 = .ok (.istore_n 2, 1) := by decide +kernel
theorem ddH_takeReady_7 : decode cH_takeReady 7 = .ok (.aload_n 0, 1) := by decide +kernel
theorem ddH_takeReady_8 : decode cH_takeReady 8 = .ok (.getfield 30, 3) := by decide +kernel
theorem ddH_takeReady_11 : decode cH_takeReady 11 = .ok (.getfield 95, 3) := by decide +kernel
theorem ddH_takeReady_14 : decode cH_takeReady 14 = .ok (.iload_n 2, 1) := by decide +kernel
theorem ddH_takeReady_15 : decode cH_takeReady 15 = .ok (.iaload, 1) := by decide +kernel
theorem ddH_takeReady_16 : decode cH_takeReady 16 = .ok (.ifCond .ne 30, 3) := by decide +kernel
theorem ddH_takeReady_19 : decode cH_takeReady 19 = .ok (.aload_n 0, 1) := by decide +kernel
theorem ddH_takeReady_20 : decode cH_takeReady 20 = .ok (.getfield 30, 3) := by decide +kernel
theorem ddH_takeReady_23 : decode cH_takeReady 23 = .ok (.aload_n 0, 1) := by decide +kernel
theorem ddH_takeReady_24 : decode cH_takeReady 24 = .ok (.iload_n 1, 1) := by decide +kernel
theorem ddH_takeReady_25 : decode cH_takeReady 25 = .ok (.aload_n 0, 1) := by decide +kernel
theorem ddH_takeReady_26 : decode cH_takeReady 26 = .ok (.iload_n 1, 1) := by decide +kernel
theorem ddH_takeReady_27 : decode cH_takeReady 27 = .ok (.iconst 1, 1) := by decide +kernel
theorem ddH_takeReady_28 : decode cH_takeReady 28 = .ok (.invokevirtual 120, 3) := by decide +kernel
theorem ddH_takeReady_31 : decode cH_takeReady 31 = .ok (.ifCond .le 7, 3) := by decide +kernel
theorem ddH_takeReady_34 : decode cH_takeReady 34 = .ok (.iconst 1, 1) := by decide +kernel
theorem ddH_takeReady_35 : decode cH_takeReady 35 = .ok (.goto 4, 3) := by decide +kernel
theorem ddH_takeReady_38 : decode cH_takeReady 38 = .ok (.iconst 2, 1) := by decide +kernel
theorem ddH_takeReady_39 : decode cH_takeReady 39 = .ok (.invokevirtual 126, 3) := by decide +kernel
theorem ddH_takeReady_42 : decode cH_takeReady 42 = .ok (.iload_n 2, 1) := by decide +kernel
theorem ddH_takeReady_43 : decode cH_takeReady 43 = .ok (.invokevirtual 184, 3) := by decide +kernel
theorem ddH_takeReady_46 : decode cH_takeReady 46 = .ok (.aload_n 0, 1) := by decide +kernel
theorem ddH_takeReady_47 : decode cH_takeReady 47 = .ok (.aload_n 0, 1) := by decide +kernel
theorem ddH_takeReady_48 : decode cH_takeReady 48 = .ok (.getfield 30, 3) := by decide +kernel
theorem ddH_takeReady_51 : decode cH_takeReady 51 = .ok (.iload_n 2, 1) := by decide +kernel
theorem ddH_takeReady_52 : decode cH_takeReady 52 = .ok (.invokevirtual 170, 3) := by decide +kernel
theorem ddH_takeReady_55 : decode cH_takeReady 55 = .ok (.invokevirtual 187, 3) := by decide +kernel
theorem ddH_takeReady_58 : decode cH_takeReady 58 = .ok (.ireturn, 1) := by decide +kernel
set_option maxHeartbeats 2000000 in
theorem zBH_takeReady_46 {G : GXM} {X : CxM} (hG : GokM G) (C : CoM G X cH_takeReady "HomeFreed$Heap") (N : mLM X = 3) {d : Nat} (hD : dpM X = d) (hd : 1 ≤ d)  {q : Int32 × Mem} (E : EnM G X (some .int) (some (.int q.1)) q.2 0 0) {v0 : Nat} {v2 : Int32} {M : Mem} (h : BH_takeReady_46 v0 v2 M = some q) : ZM G X 46 [(0, .ref v0), (2, .int v2)] [] M 0 0 := by
  unfold BH_takeReady_46 at h
  refine zz_aload_n C 0 ddH_takeReady_46 rfl rfl ?_
  refine zz_aload_n C 0 ddH_takeReady_47 rfl rfl ?_
  obtain ⟨h1, h⟩ := gdN h
  obtain ⟨h2, h⟩ := gdN h
  refine zz_getr C ddH_takeReady_48 fl_H_30 rfl h1 (of_decide_eq_true h2) ?_
  refine zz_iload_n C 1 ddH_takeReady_51 rfl rfl ?_
  obtain ⟨h4, h⟩ := gdN h
  obtain ⟨q3, hq3, h⟩ := bindN h
  refine zz_callV0 (As := [.int v2]) C ddH_takeReady_52 wd_713 my_C_pop mv_C_pop ⟨_, rfl, rfl⟩ (xC_pop hG (d - 1) (by omega) hq3) (by omega) h4 rfl rfl (Nat.le_of_ble_eq_true rfl) ?_
  obtain ⟨h6, h⟩ := gdN h
  obtain ⟨q5, hq5, h⟩ := bindN h
  refine zz_callV0 (As := [.int q3.1]) C ddH_takeReady_55 wd_742 my_H_ownNumber mv_H_ownNumber ⟨_, rfl, rfl⟩ (xH_ownNumber hG (d - 1) (by omega) hq5) (by omega) h6 rfl rfl (Nat.le_of_ble_eq_true rfl) ?_
  obtain rfl := Option.some.inj h
  exact zz_iret C E ddH_takeReady_58
set_option maxHeartbeats 2000000 in
theorem zBH_takeReady_39 {G : GXM} {X : CxM} (hG : GokM G) (C : CoM G X cH_takeReady "HomeFreed$Heap") (N : mLM X = 3) {d : Nat} (hD : dpM X = d) (hd : 1 ≤ d)  {q : Int32 × Mem} (E : EnM G X (some .int) (some (.int q.1)) q.2 0 0) {v0 : Nat} {v2 : Int32} {w0 : Nat} {w1 : Nat} {w2 : Int32} {w3 : Int32} {M : Mem} (h : BH_takeReady_39 v0 v2 w0 w1 w2 w3 M = some q) : ZM G X 39 [(0, .ref v0), (2, .int v2)] [.int w3, .int w2, .ref w1, .ref w0] M 0 0 := by
  unfold BH_takeReady_39 at h
  obtain ⟨h2, h⟩ := gdN h
  obtain ⟨q1, hq1, h⟩ := bindN h
  refine zz_callV0 (As := [.int w2, .int w3]) C ddH_takeReady_39 wd_725 my_H_listOf mv_H_listOf ⟨_, rfl, rfl⟩ (xH_listOf hG (d - 1) (by omega) hq1) (by omega) h2 rfl rfl (Nat.le_of_ble_eq_true rfl) ?_
  refine zz_iload_n C 1 ddH_takeReady_42 rfl rfl ?_
  obtain ⟨h4, h⟩ := gdN h
  obtain ⟨q3, hq3, h⟩ := bindN h
  refine zz_callV0 (As := [.int q1.1, .int v2]) C ddH_takeReady_43 wd_738 my_C_moveAhead mv_C_moveAhead ⟨_, rfl, rfl⟩ (xC_moveAhead hG (d - 1) (by omega) hq3) (by omega) h4 rfl rfl (Nat.le_of_ble_eq_true rfl) ?_
  exact zBH_takeReady_46 hG C N hD hd E h
set_option maxHeartbeats 2000000 in
theorem xH_takeReady {G : GXM} {l : Launch} (hG : GokM G) (d : Nat) (hd : 1 ≤ d) {v0 : Nat} {v1 : Int32} {M : Mem} {q : Int32 × Mem} (h : fH_takeReady v0 v1 M = some q) : ExM G l d 0 0 yH_takeReady cH_takeReady 3 (some .int) [.ref v0, .int v1] M (some (.int q.1)) q.2 := by
  refine ex_of hG (by decide +kernel) (Nat.le_of_ble_eq_true rfl) ?_
  intro X hl C E N hD hn
  show ZM G X 0 [(0, .ref v0), (1, .int v1)] [] M 0 0
  unfold fH_takeReady at h
  refine zz_aload_n C 0 ddH_takeReady_0 rfl rfl ?_
  refine zz_iload_n C 1 ddH_takeReady_1 rfl rfl ?_
  refine zz_iconst (v := 0) C ddH_takeReady_2 (by decide) ?_
  obtain ⟨h2, h⟩ := gdN h
  obtain ⟨q1, hq1, h⟩ := bindN h
  refine zz_callV0 (As := [.int v1, .int 0]) C ddH_takeReady_3 wd_725 my_H_listOf mv_H_listOf ⟨_, rfl, rfl⟩ (xH_listOf hG (d - 1) (by omega) hq1) (by omega) h2 rfl rfl (Nat.le_of_ble_eq_true rfl) ?_
  refine zz_istore_n (L1 := [(2, .int q1.1), (0, .ref v0), (1, .int v1)]) C ddH_takeReady_6 rfl N (by decide) rfl ?_
  refine zz_aload_n C 1 ddH_takeReady_7 rfl rfl ?_
  obtain ⟨h3, h⟩ := gdN h
  obtain ⟨h4, h⟩ := gdN h
  refine zz_getr C ddH_takeReady_8 fl_H_30 rfl h3 (of_decide_eq_true h4) ?_
  obtain ⟨h5, h⟩ := gdN h
  obtain ⟨h6, h⟩ := gdN h
  refine zz_getr C ddH_takeReady_11 fl_H_95 rfl h5 (of_decide_eq_true h6) ?_
  refine zz_iload_n C 0 ddH_takeReady_14 rfl rfl ?_
  obtain ⟨h7, h⟩ := gdN h
  refine zz_iaload C ddH_takeReady_15 h7 ?_
  refine zz_if_ne (tgt := 46) C ddH_takeReady_16 rfl (fun hc => ?_) (fun hc => ?_)
  · replace h := iteF h hc
    refine zz_loc (L1 := [(0, .ref v0), (2, .int q1.1)]) [1, 0] rfl ?_
    exact zBH_takeReady_46 hG C N hD hd E h
  · replace h := iteT h hc
    refine zz_aload_n C 1 ddH_takeReady_19 rfl rfl ?_
    refine zz_getr C ddH_takeReady_20 fl_H_30 rfl h3 (of_decide_eq_true h4) ?_
    refine zz_aload_n C 1 ddH_takeReady_23 rfl rfl ?_
    refine zz_iload_n C 2 ddH_takeReady_24 rfl rfl ?_
    refine zz_aload_n C 1 ddH_takeReady_25 rfl rfl ?_
    refine zz_iload_n C 2 ddH_takeReady_26 rfl rfl ?_
    refine zz_iconst (v := 1) C ddH_takeReady_27 (by decide) ?_
    obtain ⟨q8, hq8, h⟩ := bindN h
    refine zz_callV0 (As := [.int v1, .int 1]) C ddH_takeReady_28 wd_705 my_H_lengthOf mv_H_lengthOf ⟨_, rfl, rfl⟩ (xH_lengthOf hG (d - 1) (by omega) hq8) (by omega) h3 rfl rfl (Nat.le_of_ble_eq_true rfl) ?_
    refine zz_if_le (tgt := 38) C ddH_takeReady_31 rfl (fun hc => ?_) (fun hc => ?_)
    · replace h := iteT h hc
      refine zz_iconst (v := 2) C ddH_takeReady_38 (by decide) ?_
      refine zz_loc (L1 := [(0, .ref v0), (2, .int q1.1)]) [1, 0] rfl ?_
      exact zBH_takeReady_39 hG C N hD hd E h
    · replace h := iteF h hc
      refine zz_iconst (v := 1) C ddH_takeReady_34 (by decide) ?_
      refine zz_goto (tgt := 39) C ddH_takeReady_35 rfl ?_
      refine zz_loc (L1 := [(0, .ref v0), (2, .int q1.1)]) [1, 0] rfl ?_
      exact zBH_takeReady_39 hG C N hD hd E h
theorem ddK_floorMod_0 : decode cK_floorMod 0 = .ok (.iload_n 0, 1) := by decide +kernel
theorem ddK_floorMod_1 : decode cK_floorMod 1 = .ok (.iload_n 1, 1) := by decide +kernel
theorem ddK_floorMod_2 : decode cK_floorMod 2 = .ok (.irem, 1) := by decide +kernel
theorem ddK_floorMod_3 : decode cK_floorMod 3 = .ok (.istore_n 2, 1) := by decide +kernel
theorem ddK_floorMod_4 : decode cK_floorMod 4 = .ok (.iload_n 0, 1) := by decide +kernel
theorem ddK_floorMod_5 : decode cK_floorMod 5 = .ok (.iload_n 1, 1) := by decide +kernel
theorem ddK_floorMod_6 : decode cK_floorMod 6 = .ok (.ixor, 1) := by decide +kernel
theorem ddK_floorMod_7 : decode cK_floorMod 7 = .ok (.ifCond .ge 11, 3) := by decide +kernel
theorem ddK_floorMod_10 : decode cK_floorMod 10 = .ok (.iload_n 2, 1) := by decide +kernel
theorem ddK_floorMod_11 : decode cK_floorMod 11 = .ok (.ifCond .eq 7, 3) := by decide +kernel
theorem ddK_floorMod_14 : decode cK_floorMod 14 = .ok (.iload_n 2, 1) := by decide +kernel
theorem ddK_floorMod_15 : decode cK_floorMod 15 = .ok (.iload_n 1, 1) := by decide +kernel
theorem ddK_floorMod_16 : decode cK_floorMod 16 = .ok (.iadd, 1) := by decide +kernel
theorem ddK_floorMod_17 : decode cK_floorMod 17 = .ok (.ireturn, 1) := by decide +kernel
theorem ddK_floorMod_18 : decode cK_floorMod 18 = .ok (.iload_n 2, 1) := by decide +kernel
theorem ddK_floorMod_19 : decode cK_floorMod 19 = .ok (.ireturn, 1) := by decide +kernel
set_option maxHeartbeats 2000000 in
theorem zBK_floorMod_18 {G : GXM} {X : CxM} (hG : GokM G) (C : CoM G X cK_floorMod "java/lang/Math") (N : mLM X = 3) {d : Nat} (hD : dpM X = d) (hd : 0 ≤ d)  {q : Int32 × Mem} (E : EnM G X (some .int) (some (.int q.1)) q.2 0 0) {v2 : Int32} {M : Mem} (h : BK_floorMod_18 v2 M = some q) : ZM G X 18 [(2, .int v2)] [] M 0 0 := by
  unfold BK_floorMod_18 at h
  refine zz_iload_n C 0 ddK_floorMod_18 rfl rfl ?_
  obtain rfl := Option.some.inj h
  exact zz_iret C E ddK_floorMod_19
set_option maxHeartbeats 2000000 in
theorem xK_floorMod {G : GXM} {l : Launch} (hG : GokM G) (d : Nat) (hd : 0 ≤ d) {v0 : Int32} {v1 : Int32} {M : Mem} {q : Int32 × Mem} (h : fK_floorMod v0 v1 M = some q) : ExM G l d 0 0 yK_floorMod cK_floorMod 3 (some .int) [.int v0, .int v1] M (some (.int q.1)) q.2 := by
  refine ex_of hG (by decide +kernel) (Nat.le_of_ble_eq_true rfl) ?_
  intro X hl C E N hD hn
  show ZM G X 0 [(0, .int v0), (1, .int v1)] [] M 0 0
  unfold fK_floorMod at h
  refine zz_iload_n C 0 ddK_floorMod_0 rfl rfl ?_
  refine zz_iload_n C 1 ddK_floorMod_1 rfl rfl ?_
  obtain ⟨h1, h⟩ := gdN h
  refine zz_irem C ddK_floorMod_2 (of_decide_eq_true h1) ?_
  refine zz_istore_n (L1 := [(2, .int (v0 - v0 / v1 * v1)), (0, .int v0), (1, .int v1)]) C ddK_floorMod_3 rfl N (by decide) rfl ?_
  refine zz_iload_n C 1 ddK_floorMod_4 rfl rfl ?_
  refine zz_iload_n C 2 ddK_floorMod_5 rfl rfl ?_
  refine zz_ixor C ddK_floorMod_6 ?_
  refine zz_if_ge (tgt := 18) C ddK_floorMod_7 rfl (fun hc => ?_) (fun hc => ?_)
  · replace h := iteT h hc
    refine zz_loc (L1 := [(2, .int (v0 - v0 / v1 * v1))]) [0] rfl ?_
    exact zBK_floorMod_18 hG C N hD hd E h
  · replace h := iteF h hc
    refine zz_iload_n C 0 ddK_floorMod_10 rfl rfl ?_
    refine zz_if_eq (tgt := 18) C ddK_floorMod_11 rfl (fun hc => ?_) (fun hc => ?_)
    · replace h := iteT h hc
      refine zz_loc (L1 := [(2, .int (v0 - v0 / v1 * v1))]) [0] rfl ?_
      exact zBK_floorMod_18 hG C N hD hd E h
    · replace h := iteF h hc
      refine zz_iload_n C 0 ddK_floorMod_14 rfl rfl ?_
      refine zz_iload_n C 2 ddK_floorMod_15 rfl rfl ?_
      refine zz_iadd C ddK_floorMod_16 ?_
      obtain rfl := Option.some.inj h
      exact zz_iret C E ddK_floorMod_17
theorem ddL_note_0 : decode cL_note 0 = .ok (.aload_n 0, 1) := by decide +kernel
theorem ddL_note_1 : decode cL_note 1 = .ok (.getfield 9, 3) := by decide +kernel
theorem ddL_note_4 : decode cL_note 4 = .ok (.aload_n 0, 1) := by decide +kernel
theorem ddL_note_5 : decode cL_note 5 = .ok (.getfield 15, 3) := by decide +kernel
theorem ddL_note_8 : decode cL_note 8 = .ok (.bipush 60, 2) := by decide +kernel
theorem ddL_note_10 : decode cL_note 10 = .ok (.invokestatic 25, 3) := by decide +kernel
theorem ddL_note_13 : decode cL_note 13 = .ok (.iload_n 1, 1) := by decide +kernel
theorem ddL_note_14 : decode cL_note 14 = .ok (.bipush 10, 2) := by decide +kernel
theorem ddL_note_16 : decode cL_note 16 = .ok (.imul, 1) := by decide +kernel
theorem ddL_note_17 : decode cL_note 17 = .ok (.iload_n 2, 1) := by decide +kernel
theorem ddL_note_18 : decode cL_note 18 = .ok (.iadd, 1) := by decide +kernel
theorem ddL_note_19 : decode cL_note 19 = .ok (.bipush 10, 2) := by decide +kernel
theorem ddL_note_21 : decode cL_note 21 = .ok (.imul, 1) := by decide +kernel
theorem ddL_note_22 : decode cL_note 22 = .ok (.iload_n 3, 1) := by decide +kernel
theorem ddL_note_23 : decode cL_note 23 = .ok (.iadd, 1) := by decide +kernel
theorem ddL_note_24 : decode cL_note 24 = .ok (.iastore, 1) := by decide +kernel
theorem ddL_note_25 : decode cL_note 25 = .ok (.aload_n 0, 1) := by decide +kernel
theorem ddL_note_26 : decode cL_note 26 = .ok (.dup, 1) := by decide +kernel
theorem ddL_note_27 : decode cL_note 27 = .ok (.getfield 15, 3) := by decide +kernel
theorem ddL_note_30 : decode cL_note 30 = .ok (.iconst 1, 1) := by decide +kernel
theorem ddL_note_31 : decode cL_note 31 = .ok (.iadd, 1) := by decide +kernel
theorem ddL_note_32 : decode cL_note 32 = .ok (.putfield 15, 3) := by decide +kernel
theorem ddL_note_35 : decode cL_note 35 = .ok (.return_, 1) := by decide +kernel
set_option maxHeartbeats 2000000 in
theorem xL_note {G : GXM} {l : Launch} (hG : GokM G) (d : Nat) (hd : 1 ≤ d) {v0 : Nat} {v1 : Int32} {v2 : Int32} {v3 : Int32} {M : Mem} {q : Mem} (h : fL_note v0 v1 v2 v3 M = some q) : ExM G l d 0 0 yL_note cL_note 4 none [.ref v0, .int v1, .int v2, .int v3] M none q := by
  refine ex_of hG (by decide +kernel) (Nat.le_of_ble_eq_true rfl) ?_
  intro X hl C E N hD hn
  show ZM G X 0 [(0, .ref v0), (1, .int v1), (2, .int v2), (3, .int v3)] [] M 0 0
  unfold fL_note at h
  refine zz_aload_n C 0 ddL_note_0 rfl rfl ?_
  obtain ⟨h1, h⟩ := gdN h
  obtain ⟨h2, h⟩ := gdN h
  refine zz_getr C ddL_note_1 fl_L_9 rfl h1 (of_decide_eq_true h2) ?_
  refine zz_aload_n C 0 ddL_note_4 rfl rfl ?_
  refine zz_geti C ddL_note_5 fl_L_15 rfl h1 ?_
  refine zz_bipush (v := 60) C ddL_note_8 (by decide) ?_
  obtain ⟨q3, hq3, h⟩ := bindN h
  refine zz_callS0 (As := [.int (giM M v0 1), .int 60]) C ddL_note_10 wd_747 my_K_floorMod mv_K_floorMod (xK_floorMod hG (d - 1) (by omega) hq3) (by omega) rfl rfl (Nat.le_of_ble_eq_true rfl) ?_
  refine zz_iload_n C 1 ddL_note_13 rfl rfl ?_
  refine zz_bipush (v := 10) C ddL_note_14 (by decide) ?_
  refine zz_imul C ddL_note_16 ?_
  refine zz_iload_n C 2 ddL_note_17 rfl rfl ?_
  refine zz_iadd C ddL_note_18 ?_
  refine zz_bipush (v := 10) C ddL_note_19 (by decide) ?_
  refine zz_imul C ddL_note_21 ?_
  refine zz_iload_n C 3 ddL_note_22 rfl rfl ?_
  refine zz_iadd C ddL_note_23 ?_
  obtain ⟨h4, h⟩ := gdN h
  refine zz_iastore C ddL_note_24 h4 ?_
  refine zz_aload_n C 0 ddL_note_25 rfl rfl ?_
  refine zz_dup C ddL_note_26 rfl ?_
  obtain ⟨h5, h⟩ := gdN h
  refine zz_geti C ddL_note_27 fl_L_15 rfl h5 ?_
  refine zz_iconst (v := 1) C ddL_note_30 (by decide) ?_
  refine zz_iadd C ddL_note_31 ?_
  refine zz_puti C ddL_note_32 fl_L_15 rfl rfl rfl h5 ?_
  obtain rfl := Option.some.inj h
  exact zz_vret C E ddL_note_35
theorem ddH_vacate_0 : decode cH_vacate 0 = .ok (.iload_n 1, 1) := by decide +kernel
theorem ddH_vacate_1 : decode cH_vacate 1 = .ok (.iconst 3, 1) := by decide +kernel
theorem ddH_vacate_2 : decode cH_vacate 2 = .ok (.imul, 1) := by decide +kernel
theorem ddH_vacate_3 : decode cH_vacate 3 = .ok (.istore_n 2, 1) := by decide +kernel
theorem ddH_vacate_4 : decode cH_vacate 4 = .ok (.iload_n 2, 1) := by decide +kernel
theorem ddH_vacate_5 : decode cH_vacate 5 = .ok (.iload_n 1, 1) := by decide +kernel
theorem ddH_vacate_6 : decode cH_vacate 6 = .ok (.iconst 1, 1) := by decide +kernel
theorem ddH_vacate_7 : decode cH_vacate 7 = .ok (.iadd, 1) := by decide +kernel
theorem ddH_vacate_8 : decode cH_vacate 8 = .ok (.iconst 3, 1) := by decide +kernel
theorem ddH_vacate_9 : decode cH_vacate 9 = .ok (.imul, 1) := by decide +kernel
theorem ddH_vacate_10 : decode cH_vacate 10 = .ok (.if_icmp .ge 29, 3) := by decide +kernel
theorem ddH_vacate_13 : decode cH_vacate 13 = .ok (.aload_n 0, 1) := by decide +kernel
theorem ddH_vacate_14 : decode cH_vacate 14 = .ok (.getfield 30, 3) := by decide +kernel
theorem ddH_vacate_17 : decode cH_vacate 17 = .ok (.getfield 132, 3) := by decide +kernel
theorem ddH_vacate_20 : decode cH_vacate 20 = .ok (.iload_n 2, 1) := by decide +kernel
theorem ddH_vacate_21 : decode cH_vacate 21 = .ok (.iconst (-1), 1) := by decide +kernel
theorem ddH_vacate_22 : decode cH_vacate 22 = .ok (.iastore, 1) := by decide +kernel
theorem ddH_vacate_23 : decode cH_vacate 23 = .ok (.aload_n 0, 1) := by decide +kernel
theorem ddH_vacate_24 : decode cH_vacate 24 = .ok (.getfield 30, 3) := by decide +kernel
theorem ddH_vacate_27 : decode cH_vacate 27 = .ok (.getfield 95, 3) := by decide +kernel
theorem ddH_vacate_30 : decode cH_vacate 30 = .ok (.iload_n 2, 1) := by decide +kernel
theorem ddH_vacate_31 : decode cH_vacate 31 = .ok (.iconst 0, 1) := by decide +kernel
theorem ddH_vacate_32 : decode cH_vacate 32 = .ok (.iastore, 1) := by decide +kernel
theorem ddH_vacate_33 : decode cH_vacate 33 = .ok (.iinc 2 1, 3) := by decide +kernel
theorem ddH_vacate_36 : decode cH_vacate 36 = .ok (.goto (-32), 3) := by decide +kernel
theorem ddH_vacate_39 : decode cH_vacate 39 = .ok (.aload_n 0, 1) := by decide +kernel
theorem ddH_vacate_40 : decode cH_vacate 40 = .ok (.getfield 9, 3) := by decide +kernel
theorem ddH_vacate_43 : decode cH_vacate 43 = .ok (.iload_n 1, 1) := by decide +kernel
theorem ddH_vacate_44 : decode cH_vacate 44 = .ok (.iconst (-1), 1) := by decide +kernel
theorem ddH_vacate_45 : decode cH_vacate 45 = .ok (.iastore, 1) := by decide +kernel
theorem ddH_vacate_46 : decode cH_vacate 46 = .ok (.aload_n 0, 1) := by decide +kernel
theorem ddH_vacate_47 : decode cH_vacate 47 = .ok (.getfield 15, 3) := by decide +kernel
theorem ddH_vacate_50 : decode cH_vacate 50 = .ok (.iload_n 1, 1) := by decide +kernel
theorem ddH_vacate_51 : decode cH_vacate 51 = .ok (.iconst (-1), 1) := by decide +kernel
theorem ddH_vacate_52 : decode cH_vacate 52 = .ok (.iastore, 1) := by decide +kernel
theorem ddH_vacate_53 : decode cH_vacate 53 = .ok (.aload_n 0, 1) := by decide +kernel
theorem ddH_vacate_54 : decode cH_vacate 54 = .ok (.getfield 18, 3) := by decide +kernel
theorem ddH_vacate_57 : decode cH_vacate 57 = .ok (.iload_n 1, 1) := by decide +kernel
theorem ddH_vacate_58 : decode cH_vacate 58 = .ok (.iconst 0, 1) := by decide +kernel
theorem ddH_vacate_59 : decode cH_vacate 59 = .ok (.iastore, 1) := by decide +kernel
theorem ddH_vacate_60 : decode cH_vacate 60 = .ok (.return_, 1) := by decide +kernel
set_option maxHeartbeats 2000000 in
theorem zBH_vacate_4 {G : GXM} {X : CxM} (hG : GokM G) (C : CoM G X cH_vacate "HomeFreed$Heap") (N : mLM X = 3) {d : Nat} (hD : dpM X = d) (hd : 0 ≤ d) {v0 : Nat} {v1 : Int32} {K : Nat → Int32 → Int32 → Mem → Option ((Mem))} {q : (Mem)} (hK : ∀ (v2 : Int32) (M : Mem), K v0 v1 v2 M = some q → ZM G X 4 [(0, .ref v0), (1, .int v1), (2, .int v2)] [] M 0 0) (hr : ∀ r : Mem, q =  r → EnM G X none none r 0 0) {v2 : Int32} {M : Mem} (h : BH_vacate_4 K v0 v1 v2 M = some q) : ZM G X 4 [(0, .ref v0), (1, .int v1), (2, .int v2)] [] M 0 0 := by
  unfold BH_vacate_4 at h
  refine zz_iload_n C 2 ddH_vacate_4 rfl rfl ?_
  refine zz_iload_n C 1 ddH_vacate_5 rfl rfl ?_
  refine zz_iconst (v := 1) C ddH_vacate_6 (by decide) ?_
  refine zz_iadd C ddH_vacate_7 ?_
  refine zz_iconst (v := 3) C ddH_vacate_8 (by decide) ?_
  refine zz_imul C ddH_vacate_9 ?_
  refine zz_icmp_ge (tgt := 39) C ddH_vacate_10 rfl (fun hc => ?_) (fun hc => ?_)
  · replace h := iteT h hc
    refine zz_aload_n C 0 ddH_vacate_39 rfl rfl ?_
    obtain ⟨h1, h⟩ := gdN h
    obtain ⟨h2, h⟩ := gdN h
    refine zz_getr C ddH_vacate_40 fl_H_9 rfl h1 (of_decide_eq_true h2) ?_
    refine zz_iload_n C 1 ddH_vacate_43 rfl rfl ?_
    refine zz_iconst (v := (-1)) C ddH_vacate_44 (by decide) ?_
    obtain ⟨h3, h⟩ := gdN h
    refine zz_iastore C ddH_vacate_45 h3 ?_
    refine zz_aload_n C 0 ddH_vacate_46 rfl rfl ?_
    obtain ⟨h4, h⟩ := gdN h
    refine zz_getr C ddH_vacate_47 fl_H_15 rfl h1 (of_decide_eq_true h4) ?_
    refine zz_iload_n C 1 ddH_vacate_50 rfl rfl ?_
    refine zz_iconst (v := (-1)) C ddH_vacate_51 (by decide) ?_
    obtain ⟨h5, h⟩ := gdN h
    refine zz_iastore C ddH_vacate_52 h5 ?_
    refine zz_aload_n C 0 ddH_vacate_53 rfl rfl ?_
    obtain ⟨h6, h⟩ := gdN h
    refine zz_getr C ddH_vacate_54 fl_H_18 rfl h1 (of_decide_eq_true h6) ?_
    refine zz_iload_n C 1 ddH_vacate_57 rfl rfl ?_
    refine zz_iconst (v := 0) C ddH_vacate_58 (by decide) ?_
    obtain ⟨h7, h⟩ := gdN h
    refine zz_iastore C ddH_vacate_59 h7 ?_
    exact zz_vret C (hr _ (Option.some.inj h).symm) ddH_vacate_60
  · replace h := iteF h hc
    refine zz_aload_n C 0 ddH_vacate_13 rfl rfl ?_
    obtain ⟨h8, h⟩ := gdN h
    obtain ⟨h9, h⟩ := gdN h
    refine zz_getr C ddH_vacate_14 fl_H_30 rfl h8 (of_decide_eq_true h9) ?_
    obtain ⟨h10, h⟩ := gdN h
    obtain ⟨h11, h⟩ := gdN h
    refine zz_getr C ddH_vacate_17 fl_H_132 rfl h10 (of_decide_eq_true h11) ?_
    refine zz_iload_n C 2 ddH_vacate_20 rfl rfl ?_
    refine zz_iconst (v := (-1)) C ddH_vacate_21 (by decide) ?_
    obtain ⟨h12, h⟩ := gdN h
    refine zz_iastore C ddH_vacate_22 h12 ?_
    refine zz_aload_n C 0 ddH_vacate_23 rfl rfl ?_
    refine zz_getr C ddH_vacate_24 fl_H_30 rfl h8 (of_decide_eq_true h9) ?_
    obtain ⟨h13, h⟩ := gdN h
    refine zz_getr C ddH_vacate_27 fl_H_95 rfl h10 (of_decide_eq_true h13) ?_
    refine zz_iload_n C 2 ddH_vacate_30 rfl rfl ?_
    refine zz_iconst (v := 0) C ddH_vacate_31 (by decide) ?_
    obtain ⟨h14, h⟩ := gdN h
    refine zz_iastore C ddH_vacate_32 h14 ?_
    refine zz_iinc (v := v2 + 1) (L1 := [(2, .int (v2 + 1)), (0, .ref v0), (1, .int v1)]) C 2 ddH_vacate_33 rfl rfl N (by decide) rfl ?_
    refine zz_goto (tgt := 4) C ddH_vacate_36 rfl ?_
    refine zz_loc (L1 := [(0, .ref v0), (1, .int v1), (2, .int (v2 + 1))]) [1, 2, 0] rfl ?_
    exact hK _ _ h
set_option maxHeartbeats 2000000 in
theorem zLH_vacate_4 {G : GXM} {X : CxM} (hG : GokM G) (C : CoM G X cH_vacate "HomeFreed$Heap") (N : mLM X = 3) {d : Nat} (hD : dpM X = d) (hd : 0 ≤ d) {v0 : Nat} {v1 : Int32} {q : (Mem)} : ∀ (f : Nat) (v2 : Int32) (M : Mem), LH_vacate_4 f v0 v1 v2 M = some q → (hr : ∀ r : Mem, q =  r → EnM G X none none r 0 0) → ZM G X 4 [(0, .ref v0), (1, .int v1), (2, .int v2)] [] M 0 0 := by
  intro f
  induction f with
  | zero => intro v2 M h; cases h
  | succ f ih =>
    intro v2 M h hr
    exact zBH_vacate_4 hG C N hD hd (K := LH_vacate_4 f) (q := q) (fun v2 M h => ih v2 M h hr) hr h
set_option maxHeartbeats 2000000 in
theorem xH_vacate {G : GXM} {l : Launch} (hG : GokM G) (d : Nat) (hd : 0 ≤ d) {v0 : Nat} {v1 : Int32} {M : Mem} {q : Mem} (h : fH_vacate v0 v1 M = some q) : ExM G l d 0 0 yH_vacate cH_vacate 3 none [.ref v0, .int v1] M none q := by
  refine ex_of hG (by decide +kernel) (Nat.le_of_ble_eq_true rfl) ?_
  intro X hl C E N hD hn
  show ZM G X 0 [(0, .ref v0), (1, .int v1)] [] M 0 0
  unfold fH_vacate at h
  refine zz_iload_n C 1 ddH_vacate_0 rfl rfl ?_
  refine zz_iconst (v := 3) C ddH_vacate_1 (by decide) ?_
  refine zz_imul C ddH_vacate_2 ?_
  refine zz_istore_n (L1 := [(2, .int (v1 * 3)), (0, .ref v0), (1, .int v1)]) C ddH_vacate_3 rfl N (by decide) rfl ?_
  refine zz_loc (L1 := [(0, .ref v0), (1, .int v1), (2, .int (v1 * 3))]) [1, 2, 0] rfl ?_
  obtain ⟨q1, hq1, h⟩ := bindN h
  refine zLH_vacate_4 hG C N hD hd 1000000 _ _ hq1 ?_
  · intro r2 eq1; replace eq1 := eq1.symm; subst eq1
    obtain rfl := Option.some.inj h
    exact E
theorem ddH_goHome_0 : decode cH_goHome 0 = .ok (.aload_n 0, 1) := by decide +kernel
theorem ddH_goHome_1 : decode cH_goHome 1 = .ok (.iload_n 1, 1) := by decide +kernel
theorem ddH_goHome_2 : decode cH_goHome 2 = .ok (.iload_n 2, 1) := by decide +kernel
theorem ddH_goHome_3 : decode cH_goHome 3 = .ok (.invokevirtual 98, 3) := by decide +kernel
theorem ddH_goHome_6 : decode cH_goHome 6 = .ok (.istore_n 3, 1) := by decide +kernel
theorem ddH_goHome_7 : decode cH_goHome 7 = .ok (.aload_n 0, 1) := by decide +kernel
theorem ddH_goHome_8 : decode cH_goHome 8 = .ok (.getfield 30, 3) := by decide +kernel
theorem ddH_goHome_11 : decode cH_goHome 11 = .ok (.getfield 95, 3) := by decide +kernel
theorem ddH_goHome_14 : decode cH_goHome 14 = .ok (.iload_n 3, 1) := by decide +kernel
theorem ddH_goHome_15 : decode cH_goHome 15 = .ok (.iaload, 1) := by decide +kernel
theorem ddH_goHome_16 : decode cH_goHome 16 = .ok (.istore 4, 2) := by decide +kernel
theorem ddH_goHome_18 : decode cH_goHome 18 = .ok (.iload 4, 2) := by decide +kernel
theorem ddH_goHome_20 : decode cH_goHome 20 = .ok (.ifCond .ne 5, 3) := by decide +kernel
theorem ddH_goHome_23 : decode cH_goHome 23 = .ok (.iconst 0, 1) := by decide +kernel
theorem ddH_goHome_24 : decode cH_goHome 24 = .ok (.ireturn, 1) := by decide +kernel
theorem ddH_goHome_25 : decode cH_goHome 25 = .ok (.aload_n 0, 1) := by decide +kernel
theorem ddH_goHome_26 : decode cH_goHome 26 = .ok (.getfield 30, 3) := by decide +kernel
theorem ddH_goHome_29 : decode cH_goHome 29 = .ok (.iload_n 3, 1) := by decide +kernel
theorem ddH_goHome_30 : decode cH_goHome 30 = .ok (.aload_n 0, 1) := by decide +kernel
theorem ddH_goHome_31 : decode cH_goHome 31 = .ok (.iload_n 2, 1) := by decide +kernel
theorem ddH_goHome_32 : decode cH_goHome 32 = .ok (.iconst 2, 1) := by decide +kernel
theorem ddH_goHome_33 : decode cH_goHome 33 = .ok (.invokevirtual 126, 3) := by decide +kernel
theorem ddH_goHome_36 : decode cH_goHome 36 = .ok (.invokevirtual 184, 3) := by decide +kernel
theorem ddH_goHome_39 : decode cH_goHome 39 = .ok (.aload_n 0, 1) := by decide +kernel
theorem ddH_goHome_40 : decode cH_goHome 40 = .ok (.getfield 15, 3) := by decide +kernel
theorem ddH_goHome_43 : decode cH_goHome 43 = .ok (.iload_n 2, 1) := by decide +kernel
theorem ddH_goHome_44 : decode cH_goHome 44 = .ok (.iaload, 1) := by decide +kernel
theorem ddH_goHome_45 : decode cH_goHome 45 = .ok (.iconst (-1), 1) := by decide +kernel
theorem ddH_goHome_46 : decode cH_goHome 46 = .ok (.if_icmp .ne 16, 3) := by decide +kernel
theorem ddH_goHome_49 : decode cH_goHome 49 = .ok (.aload_n 0, 1) := by decide +kernel
theorem ddH_goHome_50 : decode cH_goHome 50 = .ok (.iload_n 2, 1) := by decide +kernel
theorem ddH_goHome_51 : decode cH_goHome 51 = .ok (.invokevirtual 102, 3) := by decide +kernel
theorem ddH_goHome_54 : decode cH_goHome 54 = .ok (.ifCond .ne 8, 3) := by decide +kernel
theorem ddH_goHome_57 : decode cH_goHome 57 = .ok (.aload_n 0, 1) := by decide +kernel
theorem ddH_goHome_58 : decode cH_goHome 58 = .ok (.iload_n 2, 1) := by decide +kernel
theorem ddH_goHome_59 : decode cH_goHome 59 = .ok (.invokevirtual 199, 3) := by decide +kernel
theorem ddH_goHome_62 : decode cH_goHome 62 = .ok (.iload 4, 2) := by decide +kernel
theorem ddH_goHome_64 : decode cH_goHome 64 = .ok (.ireturn, 1) := by decide +kernel
set_option maxHeartbeats 2000000 in
theorem zBH_goHome_62 {G : GXM} {X : CxM} (hG : GokM G) (C : CoM G X cH_goHome "HomeFreed$Heap") (N : mLM X = 5) {d : Nat} (hD : dpM X = d) (hd : 1 ≤ d)  {q : Int32 × Mem} (E : EnM G X (some .int) (some (.int q.1)) q.2 0 0) {v4 : Int32} {M : Mem} (h : BH_goHome_62 v4 M = some q) : ZM G X 62 [(4, .int v4)] [] M 0 0 := by
  unfold BH_goHome_62 at h
  refine zz_iload C 0 ddH_goHome_62 rfl ?_
  obtain rfl := Option.some.inj h
  exact zz_iret C E ddH_goHome_64
set_option maxHeartbeats 2000000 in
theorem xH_goHome {G : GXM} {l : Launch} (hG : GokM G) (d : Nat) (hd : 1 ≤ d) {v0 : Nat} {v1 : Int32} {v2 : Int32} {M : Mem} {q : Int32 × Mem} (h : fH_goHome v0 v1 v2 M = some q) : ExM G l d 0 0 yH_goHome cH_goHome 5 (some .int) [.ref v0, .int v1, .int v2] M (some (.int q.1)) q.2 := by
  refine ex_of hG (by decide +kernel) (Nat.le_of_ble_eq_true rfl) ?_
  intro X hl C E N hD hn
  show ZM G X 0 [(0, .ref v0), (1, .int v1), (2, .int v2)] [] M 0 0
  unfold fH_goHome at h
  refine zz_aload_n C 0 ddH_goHome_0 rfl rfl ?_
  refine zz_iload_n C 1 ddH_goHome_1 rfl rfl ?_
  refine zz_iload_n C 2 ddH_goHome_2 rfl rfl ?_
  obtain ⟨h2, h⟩ := gdN h
  obtain ⟨q1, hq1, h⟩ := bindN h
  refine zz_callV0 (As := [.int v1, .int v2]) C ddH_goHome_3 wd_619 my_H_outboxOf mv_H_outboxOf ⟨_, rfl, rfl⟩ (xH_outboxOf hG (d - 1) (by omega) hq1) (by omega) h2 rfl rfl (Nat.le_of_ble_eq_true rfl) ?_
  refine zz_istore_n (L1 := [(3, .int q1.1), (0, .ref v0), (1, .int v1), (2, .int v2)]) C ddH_goHome_6 rfl N (by decide) rfl ?_
  refine zz_aload_n C 1 ddH_goHome_7 rfl rfl ?_
  obtain ⟨h3, h⟩ := gdN h
  obtain ⟨h4, h⟩ := gdN h
  refine zz_getr C ddH_goHome_8 fl_H_30 rfl h3 (of_decide_eq_true h4) ?_
  obtain ⟨h5, h⟩ := gdN h
  obtain ⟨h6, h⟩ := gdN h
  refine zz_getr C ddH_goHome_11 fl_H_95 rfl h5 (of_decide_eq_true h6) ?_
  refine zz_iload_n C 0 ddH_goHome_14 rfl rfl ?_
  obtain ⟨h7, h⟩ := gdN h
  refine zz_iaload C ddH_goHome_15 h7 ?_
  refine zz_istore (L1 := [(4, .int (giM q1.2 (grM q1.2 (grM q1.2 v0 5) 1) (Int32.toNatClampNeg q1.1))), (3, .int q1.1), (0, .ref v0), (1, .int v1), (2, .int v2)]) C ddH_goHome_16 N (by decide) rfl ?_
  refine zz_iload C 0 ddH_goHome_18 rfl ?_
  refine zz_if_ne (tgt := 25) C ddH_goHome_20 rfl (fun hc => ?_) (fun hc => ?_)
  · replace h := iteF h hc
    refine zz_aload_n C 2 ddH_goHome_25 rfl rfl ?_
    refine zz_getr C ddH_goHome_26 fl_H_30 rfl h3 (of_decide_eq_true h4) ?_
    refine zz_iload_n C 1 ddH_goHome_29 rfl rfl ?_
    refine zz_aload_n C 2 ddH_goHome_30 rfl rfl ?_
    refine zz_iload_n C 4 ddH_goHome_31 rfl rfl ?_
    refine zz_iconst (v := 2) C ddH_goHome_32 (by decide) ?_
    obtain ⟨q8, hq8, h⟩ := bindN h
    refine zz_callV0 (As := [.int v2, .int 2]) C ddH_goHome_33 wd_725 my_H_listOf mv_H_listOf ⟨_, rfl, rfl⟩ (xH_listOf hG (d - 1) (by omega) hq8) (by omega) h3 rfl rfl (Nat.le_of_ble_eq_true rfl) ?_
    obtain ⟨h10, h⟩ := gdN h
    obtain ⟨q9, hq9, h⟩ := bindN h
    refine zz_callV0 (As := [.int q1.1, .int q8.1]) C ddH_goHome_36 wd_738 my_C_moveAhead mv_C_moveAhead ⟨_, rfl, rfl⟩ (xC_moveAhead hG (d - 1) (by omega) hq9) (by omega) h10 rfl rfl (Nat.le_of_ble_eq_true rfl) ?_
    refine zz_aload_n C 2 ddH_goHome_39 rfl rfl ?_
    obtain ⟨h11, h⟩ := gdN h
    obtain ⟨h12, h⟩ := gdN h
    refine zz_getr C ddH_goHome_40 fl_H_15 rfl h11 (of_decide_eq_true h12) ?_
    refine zz_iload_n C 4 ddH_goHome_43 rfl rfl ?_
    obtain ⟨h13, h⟩ := gdN h
    refine zz_iaload C ddH_goHome_44 h13 ?_
    refine zz_iconst (v := (-1)) C ddH_goHome_45 (by decide) ?_
    refine zz_icmp_ne (tgt := 62) C ddH_goHome_46 rfl (fun hc => ?_) (fun hc => ?_)
    · replace h := iteF h hc
      refine zz_loc (L1 := [(4, .int (giM q1.2 (grM q1.2 (grM q1.2 v0 5) 1) (Int32.toNatClampNeg q1.1)))]) [0] rfl ?_
      exact zBH_goHome_62 hG C N hD hd E h
    · replace h := iteT h hc
      refine zz_aload_n C 2 ddH_goHome_49 rfl rfl ?_
      refine zz_iload_n C 4 ddH_goHome_50 rfl rfl ?_
      obtain ⟨q14, hq14, h⟩ := bindN h
      refine zz_callV0 (As := [.int v2]) C ddH_goHome_51 wd_670 my_H_usedOf mv_H_usedOf ⟨_, rfl, rfl⟩ (xH_usedOf hG (d - 1) (by omega) hq14) (by omega) h11 rfl rfl (Nat.le_of_ble_eq_true rfl) ?_
      refine zz_if_ne (tgt := 62) C ddH_goHome_54 rfl (fun hc => ?_) (fun hc => ?_)
      · replace h := iteF h hc
        refine zz_loc (L1 := [(4, .int (giM q1.2 (grM q1.2 (grM q1.2 v0 5) 1) (Int32.toNatClampNeg q1.1)))]) [0] rfl ?_
        exact zBH_goHome_62 hG C N hD hd E h
      · replace h := iteT h hc
        refine zz_aload_n C 2 ddH_goHome_57 rfl rfl ?_
        refine zz_iload_n C 4 ddH_goHome_58 rfl rfl ?_
        obtain ⟨h16, h⟩ := gdN h
        obtain ⟨q15, hq15, h⟩ := bindN h
        refine zz_callV0 (As := [.int v2]) C ddH_goHome_59 wd_758 my_H_vacate mv_H_vacate ⟨_, rfl, rfl⟩ (xH_vacate hG (d - 1) (by omega) hq15) (by omega) h16 rfl rfl (Nat.le_of_ble_eq_true rfl) ?_
        refine zz_loc (L1 := [(4, .int (giM q1.2 (grM q1.2 (grM q1.2 v0 5) 1) (Int32.toNatClampNeg q1.1)))]) [0] rfl ?_
        exact zBH_goHome_62 hG C N hD hd E h
  · replace h := iteT h hc
    refine zz_iconst (v := 0) C ddH_goHome_23 (by decide) ?_
    obtain rfl := Option.some.inj h
    exact zz_iret C E ddH_goHome_24
theorem ddH_queueFullAgain_0 : decode cH_queueFullAgain 0 = .ok (.iconst 0, 1) := by decide +kernel
theorem ddH_queueFullAgain_1 : decode cH_queueFullAgain 1 = .ok (.istore_n 2, 1) := by decide +kernel
theorem ddH_queueFullAgain_2 : decode cH_queueFullAgain 2 = .ok (.iload_n 2, 1) := by decide +kernel
theorem ddH_queueFullAgain_3 : decode cH_queueFullAgain 3 = .ok (.aload_n 0, 1) := by decide +kernel
theorem ddH_queueFullAgain_4 : decode cH_queueFullAgain 4 = .ok (.getfield 46, 3) := by decide +kernel
theorem ddH_queueFullAgain_7 : decode cH_queueFullAgain 7 = .ok (.getfield 76, 3) := by decide +kernel
theorem ddH_queueFullAgain_10 : decode cH_queueFullAgain 10 = .ok (.iconst 1, 1) := by decide +kernel
theorem ddH_queueFullAgain_11 : decode cH_queueFullAgain 11 = .ok (.iaload, 1) := by decide +kernel
theorem ddH_queueFullAgain_12 : decode cH_queueFullAgain 12 = .ok (.if_icmp .ge 77, 3) := by decide +kernel
theorem ddH_queueFullAgain_15 : decode cH_queueFullAgain 15 = .ok (.aload_n 0, 1) := by decide +kernel
theorem ddH_queueFullAgain_16 : decode cH_queueFullAgain 16 = .ok (.getfield 15, 3) := by decide +kernel
theorem ddH_queueFullAgain_19 : decode cH_queueFullAgain 19 = .ok (.iload_n 2, 1) := by decide +kernel
theorem ddH_queueFullAgain_20 : decode cH_queueFullAgain 20 = .ok (.iaload, 1) := by decide +kernel
theorem ddH_queueFullAgain_21 : decode cH_queueFullAgain 21 = .ok (.iload_n 1, 1) := by decide +kernel
theorem ddH_queueFullAgain_22 : decode cH_queueFullAgain 22 = .ok (.if_icmp .ne 20, 3) := by decide +kernel
theorem ddH_queueFullAgain_25 : decode cH_queueFullAgain 25 = .ok (.aload_n 0, 1) := by decide +kernel
theorem ddH_queueFullAgain_26 : decode cH_queueFullAgain 26 = .ok (.getfield 26, 3) := by decide +kernel
theorem ddH_queueFullAgain_29 : decode cH_queueFullAgain 29 = .ok (.getfield 88, 3) := by decide +kernel
theorem ddH_queueFullAgain_32 : decode cH_queueFullAgain 32 = .ok (.iload_n 2, 1) := by decide +kernel
theorem ddH_queueFullAgain_33 : decode cH_queueFullAgain 33 = .ok (.iaload, 1) := by decide +kernel
theorem ddH_queueFullAgain_34 : decode cH_queueFullAgain 34 = .ok (.iconst (-1), 1) := by decide +kernel
theorem ddH_queueFullAgain_35 : decode cH_queueFullAgain 35 = .ok (.if_icmp .ne 7, 3) := by decide +kernel
theorem ddH_queueFullAgain_38 : decode cH_queueFullAgain 38 = .ok (.iconst 1, 1) := by decide +kernel
theorem ddH_queueFullAgain_39 : decode cH_queueFullAgain 39 = .ok (.goto 4, 3) := by decide +kernel
theorem ddH_queueFullAgain_42 : decode cH_queueFullAgain 42 = .ok (.iconst 0, 1) := by decide +kernel
theorem ddH_queueFullAgain_43 : decode cH_queueFullAgain 43 = .ok (.istore_n 3, 1) := by decide +kernel
theorem ddH_queueFullAgain_44 : decode cH_queueFullAgain 44 = .ok (.iload_n 3, 1) := by decide +kernel
theorem ddH_queueFullAgain_45 : decode cH_queueFullAgain 45 = .ok (.ifCond .eq 38, 3) := by decide +kernel
theorem ddH_queueFullAgain_48 : decode cH_queueFullAgain 48 = .ok (.aload_n 0, 1) := by decide +kernel
theorem ddH_queueFullAgain_49 : decode cH_queueFullAgain 49 = .ok (.iload_n 2, 1) := by decide +kernel
theorem ddH_queueFullAgain_50 : decode cH_queueFullAgain 50 = .ok (.iconst 1, 1) := by decide +kernel
theorem ddH_queueFullAgain_51 : decode cH_queueFullAgain 51 = .ok (.invokevirtual 120, 3) := by decide +kernel
theorem ddH_queueFullAgain_54 : decode cH_queueFullAgain 54 = .ok (.aload_n 0, 1) := by decide +kernel
theorem ddH_queueFullAgain_55 : decode cH_queueFullAgain 55 = .ok (.iload_n 2, 1) := by decide +kernel
theorem ddH_queueFullAgain_56 : decode cH_queueFullAgain 56 = .ok (.iconst 2, 1) := by decide +kernel
theorem ddH_queueFullAgain_57 : decode cH_queueFullAgain 57 = .ok (.invokevirtual 120, 3) := by decide +kernel
theorem ddH_queueFullAgain_60 : decode cH_queueFullAgain 60 = .ok (.iadd, 1) := by decide +kernel
theorem ddH_queueFullAgain_61 : decode cH_queueFullAgain 61 = .ok (.ifCond .le 22, 3) := by decide +kernel
theorem ddH_queueFullAgain_64 : decode cH_queueFullAgain 64 = .ok (.aload_n 0, 1) := by decide +kernel
theorem ddH_queueFullAgain_65 : decode cH_queueFullAgain 65 = .ok (.getfield 26, 3) := by decide +kernel
theorem ddH_queueFullAgain_68 : decode cH_queueFullAgain 68 = .ok (.aload_n 0, 1) := by decide +kernel
theorem ddH_queueFullAgain_69 : decode cH_queueFullAgain 69 = .ok (.iload_n 1, 1) := by decide +kernel
theorem ddH_queueFullAgain_70 : decode cH_queueFullAgain 70 = .ok (.aload_n 0, 1) := by decide +kernel
theorem ddH_queueFullAgain_71 : decode cH_queueFullAgain 71 = .ok (.getfield 9, 3) := by decide +kernel
theorem ddH_queueFullAgain_74 : decode cH_queueFullAgain 74 = .ok (.iload_n 2, 1) := by decide +kernel
theorem ddH_queueFullAgain_75 : decode cH_queueFullAgain 75 = .ok (.iaload, 1) := by decide +kernel
theorem ddH_queueFullAgain_76 : decode cH_queueFullAgain 76 = .ok (.invokevirtual 138, 3) := by decide +kernel
theorem ddH_queueFullAgain_79 : decode cH_queueFullAgain 79 = .ok (.iload_n 2, 1) := by decide +kernel
theorem ddH_queueFullAgain_80 : decode cH_queueFullAgain 80 = .ok (.invokevirtual 175, 3) := by decide +kernel
theorem ddH_queueFullAgain_83 : decode cH_queueFullAgain 83 = .ok (.iinc 2 1, 3) := by decide +kernel
theorem ddH_queueFullAgain_86 : decode cH_queueFullAgain 86 = .ok (.goto (-84), 3) := by decide +kernel
theorem ddH_queueFullAgain_89 : decode cH_queueFullAgain 89 = .ok (.return_, 1) := by decide +kernel
set_option maxHeartbeats 2000000 in
theorem zBH_queueFullAgain_83 {G : GXM} {X : CxM} (hG : GokM G) (C : CoM G X cH_queueFullAgain "HomeFreed$Heap") (N : mLM X = 4) {d : Nat} (hD : dpM X = d) (hd : 1 ≤ d) {v0 : Nat} {v1 : Int32} {K : Nat → Int32 → Int32 → Mem → Option ((Mem))} {q : (Mem)} (hK : ∀ (v2 : Int32) (M : Mem), K v0 v1 v2 M = some q → ZM G X 2 [(0, .ref v0), (1, .int v1), (2, .int v2)] [] M 0 0) (hr : ∀ r : Mem, q =  r → EnM G X none none r 0 0) {v2 : Int32} {M : Mem} (h : BH_queueFullAgain_83 K v0 v1 v2 M = some q) : ZM G X 83 [(0, .ref v0), (1, .int v1), (2, .int v2)] [] M 0 0 := by
  unfold BH_queueFullAgain_83 at h
  refine zz_iinc (v := v2 + 1) (L1 := [(2, .int (v2 + 1)), (0, .ref v0), (1, .int v1)]) C 2 ddH_queueFullAgain_83 rfl rfl N (by decide) rfl ?_
  refine zz_goto (tgt := 2) C ddH_queueFullAgain_86 rfl ?_
  refine zz_loc (L1 := [(0, .ref v0), (1, .int v1), (2, .int (v2 + 1))]) [1, 2, 0] rfl ?_
  exact hK _ _ h
set_option maxHeartbeats 2000000 in
theorem zBH_queueFullAgain_43 {G : GXM} {X : CxM} (hG : GokM G) (C : CoM G X cH_queueFullAgain "HomeFreed$Heap") (N : mLM X = 4) {d : Nat} (hD : dpM X = d) (hd : 1 ≤ d) {v0 : Nat} {v1 : Int32} {K : Nat → Int32 → Int32 → Mem → Option ((Mem))} {q : (Mem)} (hK : ∀ (v2 : Int32) (M : Mem), K v0 v1 v2 M = some q → ZM G X 2 [(0, .ref v0), (1, .int v1), (2, .int v2)] [] M 0 0) (hr : ∀ r : Mem, q =  r → EnM G X none none r 0 0) {v2 : Int32} {w0 : Int32} {M : Mem} (h : BH_queueFullAgain_43 K v0 v1 v2 w0 M = some q) : ZM G X 43 [(0, .ref v0), (1, .int v1), (2, .int v2)] [.int w0] M 0 0 := by
  unfold BH_queueFullAgain_43 at h
  refine zz_istore_n (L1 := [(3, .int w0), (0, .ref v0), (1, .int v1), (2, .int v2)]) C ddH_queueFullAgain_43 rfl N (by decide) rfl ?_
  refine zz_iload_n C 0 ddH_queueFullAgain_44 rfl rfl ?_
  refine zz_if_eq (tgt := 83) C ddH_queueFullAgain_45 rfl (fun hc => ?_) (fun hc => ?_)
  · replace h := iteT h hc
    refine zz_loc (L1 := [(0, .ref v0), (1, .int v1), (2, .int v2)]) [1, 2, 3] rfl ?_
    exact zBH_queueFullAgain_83 hG C N hD hd hK hr h
  · replace h := iteF h hc
    refine zz_aload_n C 1 ddH_queueFullAgain_48 rfl rfl ?_
    refine zz_iload_n C 3 ddH_queueFullAgain_49 rfl rfl ?_
    refine zz_iconst (v := 1) C ddH_queueFullAgain_50 (by decide) ?_
    obtain ⟨h2, h⟩ := gdN h
    obtain ⟨q1, hq1, h⟩ := bindN h
    refine zz_callV0 (As := [.int v2, .int 1]) C ddH_queueFullAgain_51 wd_705 my_H_lengthOf mv_H_lengthOf ⟨_, rfl, rfl⟩ (xH_lengthOf hG (d - 1) (by omega) hq1) (by omega) h2 rfl rfl (Nat.le_of_ble_eq_true rfl) ?_
    refine zz_aload_n C 1 ddH_queueFullAgain_54 rfl rfl ?_
    refine zz_iload_n C 3 ddH_queueFullAgain_55 rfl rfl ?_
    refine zz_iconst (v := 2) C ddH_queueFullAgain_56 (by decide) ?_
    obtain ⟨h4, h⟩ := gdN h
    obtain ⟨q3, hq3, h⟩ := bindN h
    refine zz_callV0 (As := [.int v2, .int 2]) C ddH_queueFullAgain_57 wd_705 my_H_lengthOf mv_H_lengthOf ⟨_, rfl, rfl⟩ (xH_lengthOf hG (d - 1) (by omega) hq3) (by omega) h4 rfl rfl (Nat.le_of_ble_eq_true rfl) ?_
    refine zz_iadd C ddH_queueFullAgain_60 ?_
    refine zz_if_le (tgt := 83) C ddH_queueFullAgain_61 rfl (fun hc => ?_) (fun hc => ?_)
    · replace h := iteT h hc
      refine zz_loc (L1 := [(0, .ref v0), (1, .int v1), (2, .int v2)]) [1, 2, 3] rfl ?_
      exact zBH_queueFullAgain_83 hG C N hD hd hK hr h
    · replace h := iteF h hc
      refine zz_aload_n C 1 ddH_queueFullAgain_64 rfl rfl ?_
      obtain ⟨h5, h⟩ := gdN h
      obtain ⟨h6, h⟩ := gdN h
      refine zz_getr C ddH_queueFullAgain_65 fl_H_26 rfl h5 (of_decide_eq_true h6) ?_
      refine zz_aload_n C 1 ddH_queueFullAgain_68 rfl rfl ?_
      refine zz_iload_n C 2 ddH_queueFullAgain_69 rfl rfl ?_
      refine zz_aload_n C 1 ddH_queueFullAgain_70 rfl rfl ?_
      obtain ⟨h7, h⟩ := gdN h
      refine zz_getr C ddH_queueFullAgain_71 fl_H_9 rfl h5 (of_decide_eq_true h7) ?_
      refine zz_iload_n C 3 ddH_queueFullAgain_74 rfl rfl ?_
      obtain ⟨h8, h⟩ := gdN h
      refine zz_iaload C ddH_queueFullAgain_75 h8 ?_
      obtain ⟨q9, hq9, h⟩ := bindN h
      refine zz_callV0 (As := [.int v1, .int (giM q3.2 (grM q3.2 v0 1) (Int32.toNatClampNeg v2))]) C ddH_queueFullAgain_76 wd_669 my_H_queueOf mv_H_queueOf ⟨_, rfl, rfl⟩ (xH_queueOf hG (d - 1) (by omega) hq9) (by omega) h5 rfl rfl (Nat.le_of_ble_eq_true rfl) ?_
      refine zz_iload_n C 3 ddH_queueFullAgain_79 rfl rfl ?_
      obtain ⟨h11, h⟩ := gdN h
      obtain ⟨q10, hq10, h⟩ := bindN h
      refine zz_callV0 (As := [.int q9.1, .int v2]) C ddH_queueFullAgain_80 wd_730 my_C_append mv_C_append ⟨_, rfl, rfl⟩ (xC_append hG (d - 1) (by omega) hq10) (by omega) h11 rfl rfl (Nat.le_of_ble_eq_true rfl) ?_
      refine zz_loc (L1 := [(0, .ref v0), (1, .int v1), (2, .int v2)]) [1, 2, 3] rfl ?_
      exact zBH_queueFullAgain_83 hG C N hD hd hK hr h
set_option maxHeartbeats 2000000 in
theorem zBH_queueFullAgain_42 {G : GXM} {X : CxM} (hG : GokM G) (C : CoM G X cH_queueFullAgain "HomeFreed$Heap") (N : mLM X = 4) {d : Nat} (hD : dpM X = d) (hd : 1 ≤ d) {v0 : Nat} {v1 : Int32} {K : Nat → Int32 → Int32 → Mem → Option ((Mem))} {q : (Mem)} (hK : ∀ (v2 : Int32) (M : Mem), K v0 v1 v2 M = some q → ZM G X 2 [(0, .ref v0), (1, .int v1), (2, .int v2)] [] M 0 0) (hr : ∀ r : Mem, q =  r → EnM G X none none r 0 0) {v2 : Int32} {M : Mem} (h : BH_queueFullAgain_42 K v0 v1 v2 M = some q) : ZM G X 42 [(0, .ref v0), (1, .int v1), (2, .int v2)] [] M 0 0 := by
  unfold BH_queueFullAgain_42 at h
  refine zz_iconst (v := 0) C ddH_queueFullAgain_42 (by decide) ?_
  exact zBH_queueFullAgain_43 hG C N hD hd hK hr h
set_option maxHeartbeats 2000000 in
theorem zBH_queueFullAgain_2 {G : GXM} {X : CxM} (hG : GokM G) (C : CoM G X cH_queueFullAgain "HomeFreed$Heap") (N : mLM X = 4) {d : Nat} (hD : dpM X = d) (hd : 1 ≤ d) {v0 : Nat} {v1 : Int32} {K : Nat → Int32 → Int32 → Mem → Option ((Mem))} {q : (Mem)} (hK : ∀ (v2 : Int32) (M : Mem), K v0 v1 v2 M = some q → ZM G X 2 [(0, .ref v0), (1, .int v1), (2, .int v2)] [] M 0 0) (hr : ∀ r : Mem, q =  r → EnM G X none none r 0 0) {v2 : Int32} {M : Mem} (h : BH_queueFullAgain_2 K v0 v1 v2 M = some q) : ZM G X 2 [(0, .ref v0), (1, .int v1), (2, .int v2)] [] M 0 0 := by
  unfold BH_queueFullAgain_2 at h
  refine zz_iload_n C 2 ddH_queueFullAgain_2 rfl rfl ?_
  refine zz_aload_n C 0 ddH_queueFullAgain_3 rfl rfl ?_
  obtain ⟨h1, h⟩ := gdN h
  obtain ⟨h2, h⟩ := gdN h
  refine zz_getr C ddH_queueFullAgain_4 fl_H_46 rfl h1 (of_decide_eq_true h2) ?_
  obtain ⟨h3, h⟩ := gdN h
  obtain ⟨h4, h⟩ := gdN h
  refine zz_getr C ddH_queueFullAgain_7 fl_H_76 rfl h3 (of_decide_eq_true h4) ?_
  refine zz_iconst (v := 1) C ddH_queueFullAgain_10 (by decide) ?_
  obtain ⟨h5, h⟩ := gdN h
  refine zz_iaload C ddH_queueFullAgain_11 h5 ?_
  refine zz_icmp_ge (tgt := 89) C ddH_queueFullAgain_12 rfl (fun hc => ?_) (fun hc => ?_)
  · replace h := iteT h hc
    exact zz_vret C (hr _ (Option.some.inj h).symm) ddH_queueFullAgain_89
  · replace h := iteF h hc
    refine zz_aload_n C 0 ddH_queueFullAgain_15 rfl rfl ?_
    obtain ⟨h6, h⟩ := gdN h
    refine zz_getr C ddH_queueFullAgain_16 fl_H_15 rfl h1 (of_decide_eq_true h6) ?_
    refine zz_iload_n C 2 ddH_queueFullAgain_19 rfl rfl ?_
    obtain ⟨h7, h⟩ := gdN h
    refine zz_iaload C ddH_queueFullAgain_20 h7 ?_
    refine zz_iload_n C 1 ddH_queueFullAgain_21 rfl rfl ?_
    refine zz_icmp_ne (tgt := 42) C ddH_queueFullAgain_22 rfl (fun hc => ?_) (fun hc => ?_)
    · replace h := iteF h hc
      exact zBH_queueFullAgain_42 hG C N hD hd hK hr h
    · replace h := iteT h hc
      refine zz_aload_n C 0 ddH_queueFullAgain_25 rfl rfl ?_
      obtain ⟨h8, h⟩ := gdN h
      refine zz_getr C ddH_queueFullAgain_26 fl_H_26 rfl h1 (of_decide_eq_true h8) ?_
      obtain ⟨h9, h⟩ := gdN h
      obtain ⟨h10, h⟩ := gdN h
      refine zz_getr C ddH_queueFullAgain_29 fl_H_88 rfl h9 (of_decide_eq_true h10) ?_
      refine zz_iload_n C 2 ddH_queueFullAgain_32 rfl rfl ?_
      obtain ⟨h11, h⟩ := gdN h
      refine zz_iaload C ddH_queueFullAgain_33 h11 ?_
      refine zz_iconst (v := (-1)) C ddH_queueFullAgain_34 (by decide) ?_
      refine zz_icmp_ne (tgt := 42) C ddH_queueFullAgain_35 rfl (fun hc => ?_) (fun hc => ?_)
      · replace h := iteF h hc
        exact zBH_queueFullAgain_42 hG C N hD hd hK hr h
      · replace h := iteT h hc
        refine zz_iconst (v := 1) C ddH_queueFullAgain_38 (by decide) ?_
        refine zz_goto (tgt := 43) C ddH_queueFullAgain_39 rfl ?_
        exact zBH_queueFullAgain_43 hG C N hD hd hK hr h
set_option maxHeartbeats 2000000 in
theorem zLH_queueFullAgain_2 {G : GXM} {X : CxM} (hG : GokM G) (C : CoM G X cH_queueFullAgain "HomeFreed$Heap") (N : mLM X = 4) {d : Nat} (hD : dpM X = d) (hd : 1 ≤ d) {v0 : Nat} {v1 : Int32} {q : (Mem)} : ∀ (f : Nat) (v2 : Int32) (M : Mem), LH_queueFullAgain_2 f v0 v1 v2 M = some q → (hr : ∀ r : Mem, q =  r → EnM G X none none r 0 0) → ZM G X 2 [(0, .ref v0), (1, .int v1), (2, .int v2)] [] M 0 0 := by
  intro f
  induction f with
  | zero => intro v2 M h; cases h
  | succ f ih =>
    intro v2 M h hr
    exact zBH_queueFullAgain_2 hG C N hD hd (K := LH_queueFullAgain_2 f) (q := q) (fun v2 M h => ih v2 M h hr) hr h
set_option maxHeartbeats 2000000 in
theorem xH_queueFullAgain {G : GXM} {l : Launch} (hG : GokM G) (d : Nat) (hd : 1 ≤ d) {v0 : Nat} {v1 : Int32} {M : Mem} {q : Mem} (h : fH_queueFullAgain v0 v1 M = some q) : ExM G l d 0 0 yH_queueFullAgain cH_queueFullAgain 4 none [.ref v0, .int v1] M none q := by
  refine ex_of hG (by decide +kernel) (Nat.le_of_ble_eq_true rfl) ?_
  intro X hl C E N hD hn
  show ZM G X 0 [(0, .ref v0), (1, .int v1)] [] M 0 0
  unfold fH_queueFullAgain at h
  refine zz_iconst (v := 0) C ddH_queueFullAgain_0 (by decide) ?_
  refine zz_istore_n (L1 := [(2, .int 0), (0, .ref v0), (1, .int v1)]) C ddH_queueFullAgain_1 rfl N (by decide) rfl ?_
  refine zz_loc (L1 := [(0, .ref v0), (1, .int v1), (2, .int 0)]) [1, 2, 0] rfl ?_
  obtain ⟨q1, hq1, h⟩ := bindN h
  refine zLH_queueFullAgain_2 hG C N hD hd 1000000 _ _ hq1 ?_
  · intro r2 eq1; replace eq1 := eq1.symm; subst eq1
    obtain rfl := Option.some.inj h
    exact E
theorem ddC_drop_0 : decode cC_drop 0 = .ok (.iload_n 1, 1) := by decide +kernel
theorem ddC_drop_1 : decode cC_drop 1 = .ok (.ifCond .lt 22, 3) := by decide +kernel
theorem ddC_drop_4 : decode cC_drop 4 = .ok (.iload_n 1, 1) := by decide +kernel
theorem ddC_drop_5 : decode cC_drop 5 = .ok (.aload_n 0, 1) := by decide +kernel
theorem ddC_drop_6 : decode cC_drop 6 = .ok (.getfield 18, 3) := by decide +kernel
theorem ddC_drop_9 : decode cC_drop 9 = .ok (.arraylength, 1) := by decide +kernel
theorem ddC_drop_10 : decode cC_drop 10 = .ok (.if_icmp .ge 13, 3) := by decide +kernel
theorem ddC_drop_13 : decode cC_drop 13 = .ok (.aload_n 0, 1) := by decide +kernel
theorem ddC_drop_14 : decode cC_drop 14 = .ok (.getfield 21, 3) := by decide +kernel
theorem ddC_drop_17 : decode cC_drop 17 = .ok (.iload_n 1, 1) := by decide +kernel
theorem ddC_drop_18 : decode cC_drop 18 = .ok (.iaload, 1) := by decide +kernel
theorem ddC_drop_19 : decode cC_drop 19 = .ok (.iconst (-1), 1) := by decide +kernel
theorem ddC_drop_20 : decode cC_drop 20 = .ok (.if_icmp .ne 4, 3) := by decide +kernel
theorem ddC_drop_23 : decode cC_drop 23 = .ok (.return_, 1) := by decide +kernel
theorem ddC_drop_24 : decode cC_drop 24 = .ok (.aload_n 0, 1) := by decide +kernel
theorem ddC_drop_25 : decode cC_drop 25 = .ok (.getfield 21, 3) := by decide +kernel
theorem ddC_drop_28 : decode cC_drop 28 = .ok (.iload_n 1, 1) := by decide +kernel
theorem ddC_drop_29 : decode cC_drop 29 = .ok (.iaload, 1) := by decide +kernel
theorem ddC_drop_30 : decode cC_drop 30 = .ok (.istore_n 2, 1) := by decide +kernel
theorem ddC_drop_31 : decode cC_drop 31 = .ok (.iconst (-1), 1) := by decide +kernel
theorem ddC_drop_32 : decode cC_drop 32 = .ok (.istore_n 3, 1) := by decide +kernel
theorem ddC_drop_33 : decode cC_drop 33 = .ok (.iconst 0, 1) := by decide +kernel
theorem ddC_drop_34 : decode cC_drop 34 = .ok (.istore 4, 2) := by decide +kernel
theorem ddC_drop_36 : decode cC_drop 36 = .ok (.aload_n 0, 1) := by decide +kernel
theorem ddC_drop_37 : decode cC_drop 37 = .ok (.getfield 9, 3) := by decide +kernel
theorem ddC_drop_40 : decode cC_drop 40 = .ok (.iload_n 2, 1) := by decide +kernel
theorem ddC_drop_41 : decode cC_drop 41 = .ok (.iaload, 1) := by decide +kernel
theorem ddC_drop_42 : decode cC_drop 42 = .ok (.istore 5, 2) := by decide +kernel
theorem ddC_drop_44 : decode cC_drop 44 = .ok (.iload 4, 2) := by decide +kernel
theorem ddC_drop_46 : decode cC_drop 46 = .ok (.aload_n 0, 1) := by decide +kernel
theorem ddC_drop_47 : decode cC_drop 47 = .ok (.getfield 18, 3) := by decide +kernel
theorem ddC_drop_50 : decode cC_drop 50 = .ok (.arraylength, 1) := by decide +kernel
theorem ddC_drop_51 : decode cC_drop 51 = .ok (.if_icmp .ge 33, 3) := by decide +kernel
theorem ddC_drop_54 : decode cC_drop 54 = .ok (.iload 5, 2) := by decide +kernel
theorem ddC_drop_56 : decode cC_drop 56 = .ok (.iconst (-1), 1) := by decide +kernel
theorem ddC_drop_57 : decode cC_drop 57 = .ok (.if_icmp .eq 27, 3) := by decide +kernel
theorem ddC_drop_60 : decode cC_drop 60 = .ok (.iload 5, 2) := by decide +kernel
theorem ddC_drop_62 : decode cC_drop 62 = .ok (.iload_n 1, 1) := by decide +kernel
theorem ddC_drop_63 : decode cC_drop 63 = .ok (.if_icmp .eq 21, 3) := by decide +kernel
theorem ddC_drop_66 : decode cC_drop 66 = .ok (.iload 5, 2) := by decide +kernel
theorem ddC_drop_68 : decode cC_drop 68 = .ok (.istore_n 3, 1) := by decide +kernel
theorem ddC_drop_69 : decode cC_drop 69 = .ok (.iinc 4 1, 3) := by decide +kernel
theorem ddC_drop_72 : decode cC_drop 72 = .ok (.aload_n 0, 1) := by decide +kernel
theorem ddC_drop_73 : decode cC_drop 73 = .ok (.getfield 18, 3) := by decide +kernel
theorem ddC_drop_76 : decode cC_drop 76 = .ok (.iload 5, 2) := by decide +kernel
theorem ddC_drop_78 : decode cC_drop 78 = .ok (.iaload, 1) := by decide +kernel
theorem ddC_drop_79 : decode cC_drop 79 = .ok (.istore 5, 2) := by decide +kernel
theorem ddC_drop_81 : decode cC_drop 81 = .ok (.goto (-37), 3) := by decide +kernel
theorem ddC_drop_84 : decode cC_drop 84 = .ok (.iload_n 3, 1) := by decide +kernel
theorem ddC_drop_85 : decode cC_drop 85 = .ok (.iconst (-1), 1) := by decide +kernel
theorem ddC_drop_86 : decode cC_drop 86 = .ok (.if_icmp .ne 18, 3) := by decide +kernel
theorem ddC_drop_89 : decode cC_drop 89 = .ok (.aload_n 0, 1) := by decide +kernel
theorem ddC_drop_90 : decode cC_drop 90 = .ok (.getfield 9, 3) := by decide +kernel
theorem ddC_drop_93 : decode cC_drop 93 = .ok (.iload_n 2, 1) := by decide +kernel
theorem ddC_drop_94 : decode cC_drop 94 = .ok (.aload_n 0, 1) := by decide +kernel
theorem ddC_drop_95 : decode cC_drop 95 = .ok (.getfield 18, 3) := by decide +kernel
theorem ddC_drop_98 : decode cC_drop 98 = .ok (.iload_n 1, 1) := by decide +kernel
theorem ddC_drop_99 : decode cC_drop 99 = .ok (.iaload, 1) := by decide +kernel
theorem ddC_drop_100 : decode cC_drop 100 = .ok (.iastore, 1) := by decide +kernel
theorem ddC_drop_101 : decode cC_drop 101 = .ok (.goto 15, 3) := by decide +kernel
theorem ddC_drop_104 : decode cC_drop 104 = .ok (.aload_n 0, 1) := by decide +kernel
theorem ddC_drop_105 : decode cC_drop 105 = .ok (.getfield 18, 3) := by decide +kernel
theorem ddC_drop_108 : decode cC_drop 108 = .ok (.iload_n 3, 1) := by decide +kernel
theorem ddC_drop_109 : decode cC_drop 109 = .ok (.aload_n 0, 1) := by decide +kernel
theorem ddC_drop_110 : decode cC_drop 110 = .ok (.getfield 18, 3) := by decide +kernel
theorem ddC_drop_113 : decode cC_drop 113 = .ok (.iload_n 1, 1) := by decide +kernel
theorem ddC_drop_114 : decode cC_drop 114 = .ok (.iaload, 1) := by decide +kernel
theorem ddC_drop_115 : decode cC_drop 115 = .ok (.iastore, 1) := by decide +kernel
theorem ddC_drop_116 : decode cC_drop 116 = .ok (.aload_n 0, 1) := by decide +kernel
theorem ddC_drop_117 : decode cC_drop 117 = .ok (.getfield 18, 3) := by decide +kernel
theorem ddC_drop_120 : decode cC_drop 120 = .ok (.iload_n 1, 1) := by decide +kernel
theorem ddC_drop_121 : decode cC_drop 121 = .ok (.iconst (-1), 1) := by decide +kernel
theorem ddC_drop_122 : decode cC_drop 122 = .ok (.iastore, 1) := by decide +kernel
theorem ddC_drop_123 : decode cC_drop 123 = .ok (.aload_n 0, 1) := by decide +kernel
theorem ddC_drop_124 : decode cC_drop 124 = .ok (.getfield 21, 3) := by decide +kernel
theorem ddC_drop_127 : decode cC_drop 127 = .ok (.iload_n 1, 1) := by decide +kernel
theorem ddC_drop_128 : decode cC_drop 128 = .ok (.iconst (-1), 1) := by decide +kernel
theorem ddC_drop_129 : decode cC_drop 129 = .ok (.iastore, 1) := by decide +kernel
theorem ddC_drop_130 : decode cC_drop 130 = .ok (.aload_n 0, 1) := by decide +kernel
theorem ddC_drop_131 : decode cC_drop 131 = .ok (.getfield 15, 3) := by decide +kernel
theorem ddC_drop_134 : decode cC_drop 134 = .ok (.iload_n 2, 1) := by decide +kernel
theorem ddC_drop_135 : decode cC_drop 135 = .ok (.dup2, 1) := by decide +kernel
theorem ddC_drop_136 : decode cC_drop 136 = .ok (.iaload, 1) := by decide +kernel
theorem ddC_drop_137 : decode cC_drop 137 = .ok (.iconst 1, 1) := by decide +kernel
theorem ddC_drop_138 : decode cC_drop 138 = .ok (.isub, 1) := by decide +kernel
theorem ddC_drop_139 : decode cC_drop 139 = .ok (.iastore, 1) := by decide +kernel
theorem ddC_drop_140 : decode cC_drop 140 = .ok (.return_, 1) := by decide +kernel
set_option maxHeartbeats 2000000 in
theorem zBC_drop_116 {G : GXM} {X : CxM} (hG : GokM G) (C : CoM G X cC_drop "HomeFreed$Chains") (N : mLM X = 6) {d : Nat} (hD : dpM X = d) (hd : 0 ≤ d)  {q : Mem} (E : EnM G X none none q 0 0) {v0 : Nat} {v1 : Int32} {v2 : Int32} {M : Mem} (h : BC_drop_116 v0 v1 v2 M = some q) : ZM G X 116 [(0, .ref v0), (1, .int v1), (2, .int v2)] [] M 0 0 := by
  unfold BC_drop_116 at h
  refine zz_aload_n C 0 ddC_drop_116 rfl rfl ?_
  obtain ⟨h1, h⟩ := gdN h
  obtain ⟨h2, h⟩ := gdN h
  refine zz_getr C ddC_drop_117 fl_C_18 rfl h1 (of_decide_eq_true h2) ?_
  refine zz_iload_n C 1 ddC_drop_120 rfl rfl ?_
  refine zz_iconst (v := (-1)) C ddC_drop_121 (by decide) ?_
  obtain ⟨h3, h⟩ := gdN h
  refine zz_iastore C ddC_drop_122 h3 ?_
  refine zz_aload_n C 0 ddC_drop_123 rfl rfl ?_
  obtain ⟨h4, h⟩ := gdN h
  refine zz_getr C ddC_drop_124 fl_C_21 rfl h1 (of_decide_eq_true h4) ?_
  refine zz_iload_n C 1 ddC_drop_127 rfl rfl ?_
  refine zz_iconst (v := (-1)) C ddC_drop_128 (by decide) ?_
  obtain ⟨h5, h⟩ := gdN h
  refine zz_iastore C ddC_drop_129 h5 ?_
  refine zz_aload_n C 0 ddC_drop_130 rfl rfl ?_
  obtain ⟨h6, h⟩ := gdN h
  refine zz_getr C ddC_drop_131 fl_C_15 rfl h1 (of_decide_eq_true h6) ?_
  refine zz_iload_n C 2 ddC_drop_134 rfl rfl ?_
  refine zz_dup2 C ddC_drop_135 rfl rfl ?_
  obtain ⟨h7, h⟩ := gdN h
  refine zz_iaload C ddC_drop_136 h7 ?_
  refine zz_iconst (v := 1) C ddC_drop_137 (by decide) ?_
  refine zz_isub C ddC_drop_138 ?_
  obtain ⟨h8, h⟩ := gdN h
  refine zz_iastore C ddC_drop_139 h8 ?_
  obtain rfl := Option.some.inj h
  exact zz_vret C E ddC_drop_140
set_option maxHeartbeats 2000000 in
theorem zBC_drop_84 {G : GXM} {X : CxM} (hG : GokM G) (C : CoM G X cC_drop "HomeFreed$Chains") (N : mLM X = 6) {d : Nat} (hD : dpM X = d) (hd : 0 ≤ d)  {q : Mem} (E : EnM G X none none q 0 0) {v0 : Nat} {v1 : Int32} {v2 : Int32} {v3 : Int32} {M : Mem} (h : BC_drop_84 v0 v1 v2 v3 M = some q) : ZM G X 84 [(0, .ref v0), (1, .int v1), (2, .int v2), (3, .int v3)] [] M 0 0 := by
  unfold BC_drop_84 at h
  refine zz_iload_n C 3 ddC_drop_84 rfl rfl ?_
  refine zz_iconst (v := (-1)) C ddC_drop_85 (by decide) ?_
  refine zz_icmp_ne (tgt := 104) C ddC_drop_86 rfl (fun hc => ?_) (fun hc => ?_)
  · replace h := iteF h hc
    refine zz_aload_n C 0 ddC_drop_104 rfl rfl ?_
    obtain ⟨h1, h⟩ := gdN h
    obtain ⟨h2, h⟩ := gdN h
    refine zz_getr C ddC_drop_105 fl_C_18 rfl h1 (of_decide_eq_true h2) ?_
    refine zz_iload_n C 3 ddC_drop_108 rfl rfl ?_
    refine zz_aload_n C 0 ddC_drop_109 rfl rfl ?_
    refine zz_getr C ddC_drop_110 fl_C_18 rfl h1 (of_decide_eq_true h2) ?_
    refine zz_iload_n C 1 ddC_drop_113 rfl rfl ?_
    obtain ⟨h3, h⟩ := gdN h
    refine zz_iaload C ddC_drop_114 h3 ?_
    obtain ⟨h4, h⟩ := gdN h
    refine zz_iastore C ddC_drop_115 h4 ?_
    refine zz_loc (L1 := [(0, .ref v0), (1, .int v1), (2, .int v2)]) [0, 1, 2] rfl ?_
    exact zBC_drop_116 hG C N hD hd E h
  · replace h := iteT h hc
    refine zz_aload_n C 0 ddC_drop_89 rfl rfl ?_
    obtain ⟨h5, h⟩ := gdN h
    obtain ⟨h6, h⟩ := gdN h
    refine zz_getr C ddC_drop_90 fl_C_9 rfl h5 (of_decide_eq_true h6) ?_
    refine zz_iload_n C 2 ddC_drop_93 rfl rfl ?_
    refine zz_aload_n C 0 ddC_drop_94 rfl rfl ?_
    obtain ⟨h7, h⟩ := gdN h
    refine zz_getr C ddC_drop_95 fl_C_18 rfl h5 (of_decide_eq_true h7) ?_
    refine zz_iload_n C 1 ddC_drop_98 rfl rfl ?_
    obtain ⟨h8, h⟩ := gdN h
    refine zz_iaload C ddC_drop_99 h8 ?_
    obtain ⟨h9, h⟩ := gdN h
    refine zz_iastore C ddC_drop_100 h9 ?_
    refine zz_goto (tgt := 116) C ddC_drop_101 rfl ?_
    refine zz_loc (L1 := [(0, .ref v0), (1, .int v1), (2, .int v2)]) [0, 1, 2] rfl ?_
    exact zBC_drop_116 hG C N hD hd E h
set_option maxHeartbeats 2000000 in
theorem zBC_drop_44 {G : GXM} {X : CxM} (hG : GokM G) (C : CoM G X cC_drop "HomeFreed$Chains") (N : mLM X = 6) {d : Nat} (hD : dpM X = d) (hd : 0 ≤ d) {v0 : Nat} {v1 : Int32} {v2 : Int32} {K : Nat → Int32 → Int32 → Int32 → Int32 → Int32 → Mem → Option ((Int32 × Mem))} {q : (Int32 × Mem)} (hK : ∀ (v3 : Int32) (v4 : Int32) (v5 : Int32) (M : Mem), K v0 v1 v2 v3 v4 v5 M = some q → ZM G X 44 [(0, .ref v0), (1, .int v1), (2, .int v2), (3, .int v3), (4, .int v4), (5, .int v5)] [] M 0 0) (hx0 : ∀ y : Int32 × Mem, q = y → ZM G X 84 [(0, .ref v0), (1, .int v1), (2, .int v2), (3, .int y.1)] [] y.2 0 0) {v3 : Int32} {v4 : Int32} {v5 : Int32} {M : Mem} (h : BC_drop_44 K v0 v1 v2 v3 v4 v5 M = some q) : ZM G X 44 [(0, .ref v0), (1, .int v1), (2, .int v2), (3, .int v3), (4, .int v4), (5, .int v5)] [] M 0 0 := by
  unfold BC_drop_44 at h
  refine zz_iload C 4 ddC_drop_44 rfl ?_
  refine zz_aload_n C 0 ddC_drop_46 rfl rfl ?_
  obtain ⟨h1, h⟩ := gdN h
  obtain ⟨h2, h⟩ := gdN h
  refine zz_getr C ddC_drop_47 fl_C_18 rfl h1 (of_decide_eq_true h2) ?_
  obtain ⟨h3, h⟩ := gdN h
  refine zz_alenI C ddC_drop_50 h3 ?_
  refine zz_icmp_ge (tgt := 84) C ddC_drop_51 rfl (fun hc => ?_) (fun hc => ?_)
  · replace h := iteT h hc
    refine zz_loc (L1 := [(0, .ref v0), (1, .int v1), (2, .int v2), (3, .int v3)]) [0, 1, 2, 3] rfl ?_
    exact hx0 _ (Option.some.inj h).symm
  · replace h := iteF h hc
    refine zz_iload C 5 ddC_drop_54 rfl ?_
    refine zz_iconst (v := (-1)) C ddC_drop_56 (by decide) ?_
    refine zz_icmp_eq (tgt := 84) C ddC_drop_57 rfl (fun hc => ?_) (fun hc => ?_)
    · replace h := iteT h hc
      refine zz_loc (L1 := [(0, .ref v0), (1, .int v1), (2, .int v2), (3, .int v3)]) [0, 1, 2, 3] rfl ?_
      exact hx0 _ (Option.some.inj h).symm
    · replace h := iteF h hc
      refine zz_iload C 5 ddC_drop_60 rfl ?_
      refine zz_iload_n C 1 ddC_drop_62 rfl rfl ?_
      refine zz_icmp_eq (tgt := 84) C ddC_drop_63 rfl (fun hc => ?_) (fun hc => ?_)
      · replace h := iteT h hc
        refine zz_loc (L1 := [(0, .ref v0), (1, .int v1), (2, .int v2), (3, .int v3)]) [0, 1, 2, 3] rfl ?_
        exact hx0 _ (Option.some.inj h).symm
      · replace h := iteF h hc
        refine zz_iload C 5 ddC_drop_66 rfl ?_
        refine zz_istore_n (L1 := [(3, .int v5), (0, .ref v0), (1, .int v1), (2, .int v2), (4, .int v4), (5, .int v5)]) C ddC_drop_68 rfl N (by decide) rfl ?_
        refine zz_iinc (v := v4 + 1) (L1 := [(4, .int (v4 + 1)), (3, .int v5), (0, .ref v0), (1, .int v1), (2, .int v2), (5, .int v5)]) C 4 ddC_drop_69 rfl rfl N (by decide) rfl ?_
        refine zz_aload_n C 2 ddC_drop_72 rfl rfl ?_
        refine zz_getr C ddC_drop_73 fl_C_18 rfl h1 (of_decide_eq_true h2) ?_
        refine zz_iload C 5 ddC_drop_76 rfl ?_
        obtain ⟨h4, h⟩ := gdN h
        refine zz_iaload C ddC_drop_78 h4 ?_
        refine zz_istore (L1 := [(5, .int (giM M (grM M v0 2) (Int32.toNatClampNeg v5))), (4, .int (v4 + 1)), (3, .int v5), (0, .ref v0), (1, .int v1), (2, .int v2)]) C ddC_drop_79 N (by decide) rfl ?_
        refine zz_goto (tgt := 44) C ddC_drop_81 rfl ?_
        refine zz_loc (L1 := [(0, .ref v0), (1, .int v1), (2, .int v2), (3, .int v5), (4, .int (v4 + 1)), (5, .int (giM M (grM M v0 2) (Int32.toNatClampNeg v5)))]) [3, 4, 5, 2, 1, 0] rfl ?_
        exact hK _ _ _ _ h
set_option maxHeartbeats 2000000 in
theorem zLC_drop_44 {G : GXM} {X : CxM} (hG : GokM G) (C : CoM G X cC_drop "HomeFreed$Chains") (N : mLM X = 6) {d : Nat} (hD : dpM X = d) (hd : 0 ≤ d) {v0 : Nat} {v1 : Int32} {v2 : Int32} {q : (Int32 × Mem)} : ∀ (f : Nat) (v3 : Int32) (v4 : Int32) (v5 : Int32) (M : Mem), LC_drop_44 f v0 v1 v2 v3 v4 v5 M = some q → (hx0 : ∀ y : Int32 × Mem, q = y → ZM G X 84 [(0, .ref v0), (1, .int v1), (2, .int v2), (3, .int y.1)] [] y.2 0 0) → ZM G X 44 [(0, .ref v0), (1, .int v1), (2, .int v2), (3, .int v3), (4, .int v4), (5, .int v5)] [] M 0 0 := by
  intro f
  induction f with
  | zero => intro v3 v4 v5 M h; cases h
  | succ f ih =>
    intro v3 v4 v5 M h hx0
    exact zBC_drop_44 hG C N hD hd (K := LC_drop_44 f) (q := q) (fun v3 v4 v5 M h => ih v3 v4 v5 M h hx0) hx0 h
set_option maxHeartbeats 2000000 in
theorem zBC_drop_23 {G : GXM} {X : CxM} (hG : GokM G) (C : CoM G X cC_drop "HomeFreed$Chains") (N : mLM X = 6) {d : Nat} (hD : dpM X = d) (hd : 0 ≤ d)  {q : Mem} (E : EnM G X none none q 0 0) {M : Mem} (h : BC_drop_23 M = some q) : ZM G X 23 [] [] M 0 0 := by
  unfold BC_drop_23 at h
  obtain rfl := Option.some.inj h
  exact zz_vret C E ddC_drop_23
set_option maxHeartbeats 2000000 in
theorem xC_drop {G : GXM} {l : Launch} (hG : GokM G) (d : Nat) (hd : 0 ≤ d) {v0 : Nat} {v1 : Int32} {M : Mem} {q : Mem} (h : fC_drop v0 v1 M = some q) : ExM G l d 0 0 yC_drop cC_drop 6 none [.ref v0, .int v1] M none q := by
  refine ex_of hG (by decide +kernel) (Nat.le_of_ble_eq_true rfl) ?_
  intro X hl C E N hD hn
  show ZM G X 0 [(0, .ref v0), (1, .int v1)] [] M 0 0
  unfold fC_drop at h
  refine zz_iload_n C 1 ddC_drop_0 rfl rfl ?_
  refine zz_if_lt (tgt := 23) C ddC_drop_1 rfl (fun hc => ?_) (fun hc => ?_)
  · replace h := iteT h hc
    refine zz_loc (L1 := []) [] rfl ?_
    exact zBC_drop_23 hG C N hD hd E h
  · replace h := iteF h hc
    refine zz_iload_n C 1 ddC_drop_4 rfl rfl ?_
    refine zz_aload_n C 0 ddC_drop_5 rfl rfl ?_
    obtain ⟨h1, h⟩ := gdN h
    obtain ⟨h2, h⟩ := gdN h
    refine zz_getr C ddC_drop_6 fl_C_18 rfl h1 (of_decide_eq_true h2) ?_
    obtain ⟨h3, h⟩ := gdN h
    refine zz_alenI C ddC_drop_9 h3 ?_
    refine zz_icmp_ge (tgt := 23) C ddC_drop_10 rfl (fun hc => ?_) (fun hc => ?_)
    · replace h := iteT h hc
      refine zz_loc (L1 := []) [] rfl ?_
      exact zBC_drop_23 hG C N hD hd E h
    · replace h := iteF h hc
      refine zz_aload_n C 0 ddC_drop_13 rfl rfl ?_
      obtain ⟨h4, h⟩ := gdN h
      refine zz_getr C ddC_drop_14 fl_C_21 rfl h1 (of_decide_eq_true h4) ?_
      refine zz_iload_n C 1 ddC_drop_17 rfl rfl ?_
      obtain ⟨h5, h⟩ := gdN h
      refine zz_iaload C ddC_drop_18 h5 ?_
      refine zz_iconst (v := (-1)) C ddC_drop_19 (by decide) ?_
      refine zz_icmp_ne (tgt := 24) C ddC_drop_20 rfl (fun hc => ?_) (fun hc => ?_)
      · replace h := iteF h hc
        refine zz_aload_n C 0 ddC_drop_24 rfl rfl ?_
        refine zz_getr C ddC_drop_25 fl_C_21 rfl h1 (of_decide_eq_true h4) ?_
        refine zz_iload_n C 1 ddC_drop_28 rfl rfl ?_
        refine zz_iaload C ddC_drop_29 h5 ?_
        refine zz_istore_n (L1 := [(2, .int (giM M (grM M v0 3) (Int32.toNatClampNeg v1))), (0, .ref v0), (1, .int v1)]) C ddC_drop_30 rfl N (by decide) rfl ?_
        refine zz_iconst (v := (-1)) C ddC_drop_31 (by decide) ?_
        refine zz_istore_n (L1 := [(3, .int ((-1))), (2, .int (giM M (grM M v0 3) (Int32.toNatClampNeg v1))), (0, .ref v0), (1, .int v1)]) C ddC_drop_32 rfl N (by decide) rfl ?_
        refine zz_iconst (v := 0) C ddC_drop_33 (by decide) ?_
        refine zz_istore (L1 := [(4, .int 0), (3, .int ((-1))), (2, .int (giM M (grM M v0 3) (Int32.toNatClampNeg v1))), (0, .ref v0), (1, .int v1)]) C ddC_drop_34 N (by decide) rfl ?_
        refine zz_aload_n C 3 ddC_drop_36 rfl rfl ?_
        obtain ⟨h6, h⟩ := gdN h
        refine zz_getr C ddC_drop_37 fl_C_9 rfl h1 (of_decide_eq_true h6) ?_
        refine zz_iload_n C 2 ddC_drop_40 rfl rfl ?_
        obtain ⟨h7, h⟩ := gdN h
        refine zz_iaload C ddC_drop_41 h7 ?_
        refine zz_istore (L1 := [(5, .int (giM M (grM M v0 0) (Int32.toNatClampNeg (giM M (grM M v0 3) (Int32.toNatClampNeg v1))))), (4, .int 0), (3, .int ((-1))), (2, .int (giM M (grM M v0 3) (Int32.toNatClampNeg v1))), (0, .ref v0), (1, .int v1)]) C ddC_drop_42 N (by decide) rfl ?_
        refine zz_loc (L1 := [(0, .ref v0), (1, .int v1), (2, .int (giM M (grM M v0 3) (Int32.toNatClampNeg v1))), (3, .int ((-1))), (4, .int 0), (5, .int (giM M (grM M v0 0) (Int32.toNatClampNeg (giM M (grM M v0 3) (Int32.toNatClampNeg v1)))))]) [4, 5, 3, 2, 1, 0] rfl ?_
        obtain ⟨q8, hq8, h⟩ := bindN h
        refine zLC_drop_44 hG C N hD hd 1000000 _ _ _ _ hq8 ?_
        · intro y9 eq8; replace eq8 := eq8.symm; subst eq8
          exact zBC_drop_84 hG C N hD hd E h
      · replace h := iteT h hc
        refine zz_loc (L1 := []) [] rfl ?_
        exact zBC_drop_23 hG C N hD hd E h
theorem ddH_makeEmpty_0 : decode cH_makeEmpty 0 = .ok (.aload_n 0, 1) := by decide +kernel
theorem ddH_makeEmpty_1 : decode cH_makeEmpty 1 = .ok (.getfield 26, 3) := by decide +kernel
theorem ddH_makeEmpty_4 : decode cH_makeEmpty 4 = .ok (.iload_n 1, 1) := by decide +kernel
theorem ddH_makeEmpty_5 : decode cH_makeEmpty 5 = .ok (.invokevirtual 202, 3) := by decide +kernel
theorem ddH_makeEmpty_8 : decode cH_makeEmpty 8 = .ok (.aload_n 0, 1) := by decide +kernel
theorem ddH_makeEmpty_9 : decode cH_makeEmpty 9 = .ok (.iload_n 1, 1) := by decide +kernel
theorem ddH_makeEmpty_10 : decode cH_makeEmpty 10 = .ok (.invokevirtual 199, 3) := by decide +kernel
theorem ddH_makeEmpty_13 : decode cH_makeEmpty 13 = .ok (.return_, 1) := by decide +kernel
set_option maxHeartbeats 2000000 in
theorem xH_makeEmpty {G : GXM} {l : Launch} (hG : GokM G) (d : Nat) (hd : 1 ≤ d) {v0 : Nat} {v1 : Int32} {M : Mem} {q : Mem} (h : fH_makeEmpty v0 v1 M = some q) : ExM G l d 0 0 yH_makeEmpty cH_makeEmpty 2 none [.ref v0, .int v1] M none q := by
  refine ex_of hG (by decide +kernel) (Nat.le_of_ble_eq_true rfl) ?_
  intro X hl C E N hD hn
  show ZM G X 0 [(0, .ref v0), (1, .int v1)] [] M 0 0
  unfold fH_makeEmpty at h
  refine zz_aload_n C 0 ddH_makeEmpty_0 rfl rfl ?_
  obtain ⟨h1, h⟩ := gdN h
  obtain ⟨h2, h⟩ := gdN h
  refine zz_getr C ddH_makeEmpty_1 fl_H_26 rfl h1 (of_decide_eq_true h2) ?_
  refine zz_iload_n C 1 ddH_makeEmpty_4 rfl rfl ?_
  obtain ⟨h4, h⟩ := gdN h
  obtain ⟨q3, hq3, h⟩ := bindN h
  refine zz_callV0 (As := [.int v1]) C ddH_makeEmpty_5 wd_770 my_C_drop mv_C_drop ⟨_, rfl, rfl⟩ (xC_drop hG (d - 1) (by omega) hq3) (by omega) h4 rfl rfl (Nat.le_of_ble_eq_true rfl) ?_
  refine zz_aload_n C 0 ddH_makeEmpty_8 rfl rfl ?_
  refine zz_iload_n C 1 ddH_makeEmpty_9 rfl rfl ?_
  obtain ⟨h6, h⟩ := gdN h
  obtain ⟨q5, hq5, h⟩ := bindN h
  refine zz_callV0 (As := [.int v1]) C ddH_makeEmpty_10 wd_758 my_H_vacate mv_H_vacate ⟨_, rfl, rfl⟩ (xH_vacate hG (d - 1) (by omega) hq5) (by omega) h6 rfl rfl (Nat.le_of_ble_eq_true rfl) ?_
  obtain rfl := Option.some.inj h
  exact zz_vret C E ddH_makeEmpty_13
theorem ddH_beat_0 : decode cH_beat 0 = .ok (.iconst 0, 1) := by decide +kernel
theorem ddH_beat_1 : decode cH_beat 1 = .ok (.istore_n 2, 1) := by decide +kernel
theorem ddH_beat_2 : decode cH_beat 2 = .ok (.iload_n 2, 1) := by decide +kernel
theorem ddH_beat_3 : decode cH_beat 3 = .ok (.aload_n 0, 1) := by decide +kernel
theorem ddH_beat_4 : decode cH_beat 4 = .ok (.getfield 46, 3) := by decide +kernel
theorem ddH_beat_7 : decode cH_beat 7 = .ok (.getfield 76, 3) := by decide +kernel
theorem ddH_beat_10 : decode cH_beat 10 = .ok (.iconst 1, 1) := by decide +kernel
theorem ddH_beat_11 : decode cH_beat 11 = .ok (.iaload, 1) := by decide +kernel
theorem ddH_beat_12 : decode cH_beat 12 = .ok (.if_icmp .ge 16, 3) := by decide +kernel
theorem ddH_beat_15 : decode cH_beat 15 = .ok (.aload_n 0, 1) := by decide +kernel
theorem ddH_beat_16 : decode cH_beat 16 = .ok (.iload_n 1, 1) := by decide +kernel
theorem ddH_beat_17 : decode cH_beat 17 = .ok (.iload_n 2, 1) := by decide +kernel
theorem ddH_beat_18 : decode cH_beat 18 = .ok (.invokevirtual 193, 3) := by decide +kernel
theorem ddH_beat_21 : decode cH_beat 21 = .ok (.pop, 1) := by decide +kernel
theorem ddH_beat_22 : decode cH_beat 22 = .ok (.iinc 2 1, 3) := by decide +kernel
theorem ddH_beat_25 : decode cH_beat 25 = .ok (.goto (-23), 3) := by decide +kernel
theorem ddH_beat_28 : decode cH_beat 28 = .ok (.aload_n 0, 1) := by decide +kernel
theorem ddH_beat_29 : decode cH_beat 29 = .ok (.iload_n 1, 1) := by decide +kernel
theorem ddH_beat_30 : decode cH_beat 30 = .ok (.invokevirtual 205, 3) := by decide +kernel
theorem ddH_beat_33 : decode cH_beat 33 = .ok (.iconst 0, 1) := by decide +kernel
theorem ddH_beat_34 : decode cH_beat 34 = .ok (.istore_n 2, 1) := by decide +kernel
theorem ddH_beat_35 : decode cH_beat 35 = .ok (.iload_n 2, 1) := by decide +kernel
theorem ddH_beat_36 : decode cH_beat 36 = .ok (.aload_n 0, 1) := by decide +kernel
theorem ddH_beat_37 : decode cH_beat 37 = .ok (.getfield 46, 3) := by decide +kernel
theorem ddH_beat_40 : decode cH_beat 40 = .ok (.getfield 76, 3) := by decide +kernel
theorem ddH_beat_43 : decode cH_beat 43 = .ok (.iconst 1, 1) := by decide +kernel
theorem ddH_beat_44 : decode cH_beat 44 = .ok (.iaload, 1) := by decide +kernel
theorem ddH_beat_45 : decode cH_beat 45 = .ok (.if_icmp .ge 60, 3) := by decide +kernel
theorem ddH_beat_48 : decode cH_beat 48 = .ok (.aload_n 0, 1) := by decide +kernel
theorem ddH_beat_49 : decode cH_beat 49 = .ok (.getfield 26, 3) := by decide +kernel
theorem ddH_beat_52 : decode cH_beat 52 = .ok (.getfield 88, 3) := by decide +kernel
theorem ddH_beat_55 : decode cH_beat 55 = .ok (.iload_n 2, 1) := by decide +kernel
theorem ddH_beat_56 : decode cH_beat 56 = .ok (.iaload, 1) := by decide +kernel
theorem ddH_beat_57 : decode cH_beat 57 = .ok (.istore_n 3, 1) := by decide +kernel
theorem ddH_beat_58 : decode cH_beat 58 = .ok (.aload_n 0, 1) := by decide +kernel
theorem ddH_beat_59 : decode cH_beat 59 = .ok (.getfield 15, 3) := by decide +kernel
theorem ddH_beat_62 : decode cH_beat 62 = .ok (.iload_n 2, 1) := by decide +kernel
theorem ddH_beat_63 : decode cH_beat 63 = .ok (.iaload, 1) := by decide +kernel
theorem ddH_beat_64 : decode cH_beat 64 = .ok (.iload_n 1, 1) := by decide +kernel
theorem ddH_beat_65 : decode cH_beat 65 = .ok (.if_icmp .ne 34, 3) := by decide +kernel
theorem ddH_beat_68 : decode cH_beat 68 = .ok (.iload_n 3, 1) := by decide +kernel
theorem ddH_beat_69 : decode cH_beat 69 = .ok (.iconst (-1), 1) := by decide +kernel
theorem ddH_beat_70 : decode cH_beat 70 = .ok (.if_icmp .eq 29, 3) := by decide +kernel
theorem ddH_beat_73 : decode cH_beat 73 = .ok (.aload_n 0, 1) := by decide +kernel
theorem ddH_beat_74 : decode cH_beat 74 = .ok (.iload_n 2, 1) := by decide +kernel
theorem ddH_beat_75 : decode cH_beat 75 = .ok (.invokevirtual 102, 3) := by decide +kernel
theorem ddH_beat_78 : decode cH_beat 78 = .ok (.ifCond .ne 21, 3) := by decide +kernel
theorem ddH_beat_81 : decode cH_beat 81 = .ok (.aload_n 0, 1) := by decide +kernel
theorem ddH_beat_82 : decode cH_beat 82 = .ok (.getfield 26, 3) := by decide +kernel
theorem ddH_beat_85 : decode cH_beat 85 = .ok (.getfield 95, 3) := by decide +kernel
theorem ddH_beat_88 : decode cH_beat 88 = .ok (.iload_n 3, 1) := by decide +kernel
theorem ddH_beat_89 : decode cH_beat 89 = .ok (.iaload, 1) := by decide +kernel
theorem ddH_beat_90 : decode cH_beat 90 = .ok (.iconst 1, 1) := by decide +kernel
theorem ddH_beat_91 : decode cH_beat 91 = .ok (.if_icmp .le 8, 3) := by decide +kernel
theorem ddH_beat_94 : decode cH_beat 94 = .ok (.aload_n 0, 1) := by decide +kernel
theorem ddH_beat_95 : decode cH_beat 95 = .ok (.iload_n 2, 1) := by decide +kernel
theorem ddH_beat_96 : decode cH_beat 96 = .ok (.invokevirtual 196, 3) := by decide +kernel
theorem ddH_beat_99 : decode cH_beat 99 = .ok (.iinc 2 1, 3) := by decide +kernel
theorem ddH_beat_102 : decode cH_beat 102 = .ok (.goto (-67), 3) := by decide +kernel
theorem ddH_beat_105 : decode cH_beat 105 = .ok (.return_, 1) := by decide +kernel
set_option maxHeartbeats 2000000 in
theorem zBH_beat_99 {G : GXM} {X : CxM} (hG : GokM G) (C : CoM G X cH_beat "HomeFreed$Heap") (N : mLM X = 4) {d : Nat} (hD : dpM X = d) (hd : 2 ≤ d) {v0 : Nat} {v1 : Int32} {K : Nat → Int32 → Int32 → Mem → Option ((Mem))} {q : (Mem)} (hK : ∀ (v2 : Int32) (M : Mem), K v0 v1 v2 M = some q → ZM G X 35 [(0, .ref v0), (1, .int v1), (2, .int v2)] [] M 0 0) (hr : ∀ r : Mem, q =  r → EnM G X none none r 0 0) {v2 : Int32} {M : Mem} (h : BH_beat_99 K v0 v1 v2 M = some q) : ZM G X 99 [(0, .ref v0), (1, .int v1), (2, .int v2)] [] M 0 0 := by
  unfold BH_beat_99 at h
  refine zz_iinc (v := v2 + 1) (L1 := [(2, .int (v2 + 1)), (0, .ref v0), (1, .int v1)]) C 2 ddH_beat_99 rfl rfl N (by decide) rfl ?_
  refine zz_goto (tgt := 35) C ddH_beat_102 rfl ?_
  refine zz_loc (L1 := [(0, .ref v0), (1, .int v1), (2, .int (v2 + 1))]) [1, 2, 0] rfl ?_
  exact hK _ _ h
set_option maxHeartbeats 2000000 in
theorem zBH_beat_35 {G : GXM} {X : CxM} (hG : GokM G) (C : CoM G X cH_beat "HomeFreed$Heap") (N : mLM X = 4) {d : Nat} (hD : dpM X = d) (hd : 2 ≤ d) {v0 : Nat} {v1 : Int32} {K : Nat → Int32 → Int32 → Mem → Option ((Mem))} {q : (Mem)} (hK : ∀ (v2 : Int32) (M : Mem), K v0 v1 v2 M = some q → ZM G X 35 [(0, .ref v0), (1, .int v1), (2, .int v2)] [] M 0 0) (hr : ∀ r : Mem, q =  r → EnM G X none none r 0 0) {v2 : Int32} {M : Mem} (h : BH_beat_35 K v0 v1 v2 M = some q) : ZM G X 35 [(0, .ref v0), (1, .int v1), (2, .int v2)] [] M 0 0 := by
  unfold BH_beat_35 at h
  refine zz_iload_n C 2 ddH_beat_35 rfl rfl ?_
  refine zz_aload_n C 0 ddH_beat_36 rfl rfl ?_
  obtain ⟨h1, h⟩ := gdN h
  obtain ⟨h2, h⟩ := gdN h
  refine zz_getr C ddH_beat_37 fl_H_46 rfl h1 (of_decide_eq_true h2) ?_
  obtain ⟨h3, h⟩ := gdN h
  obtain ⟨h4, h⟩ := gdN h
  refine zz_getr C ddH_beat_40 fl_H_76 rfl h3 (of_decide_eq_true h4) ?_
  refine zz_iconst (v := 1) C ddH_beat_43 (by decide) ?_
  obtain ⟨h5, h⟩ := gdN h
  refine zz_iaload C ddH_beat_44 h5 ?_
  refine zz_icmp_ge (tgt := 105) C ddH_beat_45 rfl (fun hc => ?_) (fun hc => ?_)
  · replace h := iteT h hc
    exact zz_vret C (hr _ (Option.some.inj h).symm) ddH_beat_105
  · replace h := iteF h hc
    refine zz_aload_n C 0 ddH_beat_48 rfl rfl ?_
    obtain ⟨h6, h⟩ := gdN h
    refine zz_getr C ddH_beat_49 fl_H_26 rfl h1 (of_decide_eq_true h6) ?_
    obtain ⟨h7, h⟩ := gdN h
    obtain ⟨h8, h⟩ := gdN h
    refine zz_getr C ddH_beat_52 fl_H_88 rfl h7 (of_decide_eq_true h8) ?_
    refine zz_iload_n C 2 ddH_beat_55 rfl rfl ?_
    obtain ⟨h9, h⟩ := gdN h
    refine zz_iaload C ddH_beat_56 h9 ?_
    refine zz_istore_n (L1 := [(3, .int (giM M (grM M (grM M v0 4) 3) (Int32.toNatClampNeg v2))), (0, .ref v0), (1, .int v1), (2, .int v2)]) C ddH_beat_57 rfl N (by decide) rfl ?_
    refine zz_aload_n C 1 ddH_beat_58 rfl rfl ?_
    obtain ⟨h10, h⟩ := gdN h
    refine zz_getr C ddH_beat_59 fl_H_15 rfl h1 (of_decide_eq_true h10) ?_
    refine zz_iload_n C 3 ddH_beat_62 rfl rfl ?_
    obtain ⟨h11, h⟩ := gdN h
    refine zz_iaload C ddH_beat_63 h11 ?_
    refine zz_iload_n C 2 ddH_beat_64 rfl rfl ?_
    refine zz_icmp_ne (tgt := 99) C ddH_beat_65 rfl (fun hc => ?_) (fun hc => ?_)
    · replace h := iteF h hc
      refine zz_loc (L1 := [(0, .ref v0), (1, .int v1), (2, .int v2)]) [1, 2, 3] rfl ?_
      exact zBH_beat_99 hG C N hD hd hK hr h
    · replace h := iteT h hc
      refine zz_iload_n C 0 ddH_beat_68 rfl rfl ?_
      refine zz_iconst (v := (-1)) C ddH_beat_69 (by decide) ?_
      refine zz_icmp_eq (tgt := 99) C ddH_beat_70 rfl (fun hc => ?_) (fun hc => ?_)
      · replace h := iteT h hc
        refine zz_loc (L1 := [(0, .ref v0), (1, .int v1), (2, .int v2)]) [1, 2, 3] rfl ?_
        exact zBH_beat_99 hG C N hD hd hK hr h
      · replace h := iteF h hc
        refine zz_aload_n C 1 ddH_beat_73 rfl rfl ?_
        refine zz_iload_n C 3 ddH_beat_74 rfl rfl ?_
        obtain ⟨q12, hq12, h⟩ := bindN h
        refine zz_callV0 (As := [.int v2]) C ddH_beat_75 wd_670 my_H_usedOf mv_H_usedOf ⟨_, rfl, rfl⟩ (xH_usedOf hG (d - 1) (by omega) hq12) (by omega) h1 rfl rfl (Nat.le_of_ble_eq_true rfl) ?_
        refine zz_if_ne (tgt := 99) C ddH_beat_78 rfl (fun hc => ?_) (fun hc => ?_)
        · replace h := iteF h hc
          refine zz_loc (L1 := [(0, .ref v0), (1, .int v1), (2, .int v2)]) [1, 2, 3] rfl ?_
          exact zBH_beat_99 hG C N hD hd hK hr h
        · replace h := iteT h hc
          refine zz_aload_n C 1 ddH_beat_81 rfl rfl ?_
          obtain ⟨h13, h⟩ := gdN h
          obtain ⟨h14, h⟩ := gdN h
          refine zz_getr C ddH_beat_82 fl_H_26 rfl h13 (of_decide_eq_true h14) ?_
          obtain ⟨h15, h⟩ := gdN h
          obtain ⟨h16, h⟩ := gdN h
          refine zz_getr C ddH_beat_85 fl_H_95 rfl h15 (of_decide_eq_true h16) ?_
          refine zz_iload_n C 0 ddH_beat_88 rfl rfl ?_
          obtain ⟨h17, h⟩ := gdN h
          refine zz_iaload C ddH_beat_89 h17 ?_
          refine zz_iconst (v := 1) C ddH_beat_90 (by decide) ?_
          refine zz_icmp_le (tgt := 99) C ddH_beat_91 rfl (fun hc => ?_) (fun hc => ?_)
          · replace h := iteT h hc
            refine zz_loc (L1 := [(0, .ref v0), (1, .int v1), (2, .int v2)]) [1, 2, 3] rfl ?_
            exact zBH_beat_99 hG C N hD hd hK hr h
          · replace h := iteF h hc
            refine zz_aload_n C 1 ddH_beat_94 rfl rfl ?_
            refine zz_iload_n C 3 ddH_beat_95 rfl rfl ?_
            obtain ⟨q18, hq18, h⟩ := bindN h
            refine zz_callV0 (As := [.int v2]) C ddH_beat_96 wd_766 my_H_makeEmpty mv_H_makeEmpty ⟨_, rfl, rfl⟩ (xH_makeEmpty hG (d - 1) (by omega) hq18) (by omega) h13 rfl rfl (Nat.le_of_ble_eq_true rfl) ?_
            refine zz_loc (L1 := [(0, .ref v0), (1, .int v1), (2, .int v2)]) [1, 2, 3] rfl ?_
            exact zBH_beat_99 hG C N hD hd hK hr h
set_option maxHeartbeats 2000000 in
theorem zLH_beat_35 {G : GXM} {X : CxM} (hG : GokM G) (C : CoM G X cH_beat "HomeFreed$Heap") (N : mLM X = 4) {d : Nat} (hD : dpM X = d) (hd : 2 ≤ d) {v0 : Nat} {v1 : Int32} {q : (Mem)} : ∀ (f : Nat) (v2 : Int32) (M : Mem), LH_beat_35 f v0 v1 v2 M = some q → (hr : ∀ r : Mem, q =  r → EnM G X none none r 0 0) → ZM G X 35 [(0, .ref v0), (1, .int v1), (2, .int v2)] [] M 0 0 := by
  intro f
  induction f with
  | zero => intro v2 M h; cases h
  | succ f ih =>
    intro v2 M h hr
    exact zBH_beat_35 hG C N hD hd (K := LH_beat_35 f) (q := q) (fun v2 M h => ih v2 M h hr) hr h
set_option maxHeartbeats 2000000 in
theorem zBH_beat_2 {G : GXM} {X : CxM} (hG : GokM G) (C : CoM G X cH_beat "HomeFreed$Heap") (N : mLM X = 4) {d : Nat} (hD : dpM X = d) (hd : 2 ≤ d) {v0 : Nat} {v1 : Int32} {K : Nat → Int32 → Int32 → Mem → Option ((Mem))} {q : (Mem)} (hK : ∀ (v2 : Int32) (M : Mem), K v0 v1 v2 M = some q → ZM G X 2 [(0, .ref v0), (1, .int v1), (2, .int v2)] [] M 0 0) (hx0 : ∀ y : Mem, q = y → ZM G X 28 [(0, .ref v0), (1, .int v1)] [] y 0 0) {v2 : Int32} {M : Mem} (h : BH_beat_2 K v0 v1 v2 M = some q) : ZM G X 2 [(0, .ref v0), (1, .int v1), (2, .int v2)] [] M 0 0 := by
  unfold BH_beat_2 at h
  refine zz_iload_n C 2 ddH_beat_2 rfl rfl ?_
  refine zz_aload_n C 0 ddH_beat_3 rfl rfl ?_
  obtain ⟨h1, h⟩ := gdN h
  obtain ⟨h2, h⟩ := gdN h
  refine zz_getr C ddH_beat_4 fl_H_46 rfl h1 (of_decide_eq_true h2) ?_
  obtain ⟨h3, h⟩ := gdN h
  obtain ⟨h4, h⟩ := gdN h
  refine zz_getr C ddH_beat_7 fl_H_76 rfl h3 (of_decide_eq_true h4) ?_
  refine zz_iconst (v := 1) C ddH_beat_10 (by decide) ?_
  obtain ⟨h5, h⟩ := gdN h
  refine zz_iaload C ddH_beat_11 h5 ?_
  refine zz_icmp_ge (tgt := 28) C ddH_beat_12 rfl (fun hc => ?_) (fun hc => ?_)
  · replace h := iteT h hc
    refine zz_loc (L1 := [(0, .ref v0), (1, .int v1)]) [0, 1] rfl ?_
    exact hx0 _ (Option.some.inj h).symm
  · replace h := iteF h hc
    refine zz_aload_n C 0 ddH_beat_15 rfl rfl ?_
    refine zz_iload_n C 1 ddH_beat_16 rfl rfl ?_
    refine zz_iload_n C 2 ddH_beat_17 rfl rfl ?_
    obtain ⟨q6, hq6, h⟩ := bindN h
    refine zz_callV0 (As := [.int v1, .int v2]) C ddH_beat_18 wd_754 my_H_goHome mv_H_goHome ⟨_, rfl, rfl⟩ (xH_goHome hG (d - 1) (by omega) hq6) (by omega) h1 rfl rfl (Nat.le_of_ble_eq_true rfl) ?_
    refine zz_pop C ddH_beat_21 rfl ?_
    refine zz_iinc (v := v2 + 1) (L1 := [(2, .int (v2 + 1)), (0, .ref v0), (1, .int v1)]) C 2 ddH_beat_22 rfl rfl N (by decide) rfl ?_
    refine zz_goto (tgt := 2) C ddH_beat_25 rfl ?_
    refine zz_loc (L1 := [(0, .ref v0), (1, .int v1), (2, .int (v2 + 1))]) [1, 2, 0] rfl ?_
    exact hK _ _ h
set_option maxHeartbeats 2000000 in
theorem zLH_beat_2 {G : GXM} {X : CxM} (hG : GokM G) (C : CoM G X cH_beat "HomeFreed$Heap") (N : mLM X = 4) {d : Nat} (hD : dpM X = d) (hd : 2 ≤ d) {v0 : Nat} {v1 : Int32} {q : (Mem)} : ∀ (f : Nat) (v2 : Int32) (M : Mem), LH_beat_2 f v0 v1 v2 M = some q → (hx0 : ∀ y : Mem, q = y → ZM G X 28 [(0, .ref v0), (1, .int v1)] [] y 0 0) → ZM G X 2 [(0, .ref v0), (1, .int v1), (2, .int v2)] [] M 0 0 := by
  intro f
  induction f with
  | zero => intro v2 M h; cases h
  | succ f ih =>
    intro v2 M h hx0
    exact zBH_beat_2 hG C N hD hd (K := LH_beat_2 f) (q := q) (fun v2 M h => ih v2 M h hx0) hx0 h
set_option maxHeartbeats 2000000 in
theorem xH_beat {G : GXM} {l : Launch} (hG : GokM G) (d : Nat) (hd : 2 ≤ d) {v0 : Nat} {v1 : Int32} {M : Mem} {q : Mem} (h : fH_beat v0 v1 M = some q) : ExM G l d 0 0 yH_beat cH_beat 4 none [.ref v0, .int v1] M none q := by
  refine ex_of hG (by decide +kernel) (Nat.le_of_ble_eq_true rfl) ?_
  intro X hl C E N hD hn
  show ZM G X 0 [(0, .ref v0), (1, .int v1)] [] M 0 0
  unfold fH_beat at h
  refine zz_iconst (v := 0) C ddH_beat_0 (by decide) ?_
  refine zz_istore_n (L1 := [(2, .int 0), (0, .ref v0), (1, .int v1)]) C ddH_beat_1 rfl N (by decide) rfl ?_
  refine zz_loc (L1 := [(0, .ref v0), (1, .int v1), (2, .int 0)]) [1, 2, 0] rfl ?_
  obtain ⟨q1, hq1, h⟩ := bindN h
  refine zLH_beat_2 hG C N hD hd 1000000 _ _ hq1 ?_
  · intro y2 eq1; replace eq1 := eq1.symm; subst eq1
    refine zz_aload_n C 0 ddH_beat_28 rfl rfl ?_
    refine zz_iload_n C 1 ddH_beat_29 rfl rfl ?_
    obtain ⟨h4, h⟩ := gdN h
    obtain ⟨q3, hq3, h⟩ := bindN h
    refine zz_callV0 (As := [.int v1]) C ddH_beat_30 wd_762 my_H_queueFullAgain mv_H_queueFullAgain ⟨_, rfl, rfl⟩ (xH_queueFullAgain hG (d - 1) (by omega) hq3) (by omega) h4 rfl rfl (Nat.le_of_ble_eq_true rfl) ?_
    refine zz_iconst (v := 0) C ddH_beat_33 (by decide) ?_
    refine zz_istore_n (L1 := [(2, .int 0), (0, .ref v0), (1, .int v1)]) C ddH_beat_34 rfl N (by decide) rfl ?_
    refine zz_loc (L1 := [(0, .ref v0), (1, .int v1), (2, .int 0)]) [1, 2, 0] rfl ?_
    obtain ⟨q5, hq5, h⟩ := bindN h
    refine zLH_beat_35 hG C N hD hd 1000000 _ _ hq5 ?_
    · intro r6 eq5; replace eq5 := eq5.symm; subst eq5
      obtain rfl := Option.some.inj h
      exact E
theorem ddH_takeBlock_0 : decode cH_takeBlock 0 = .ok (.aload_n 0, 1) := by decide +kernel
theorem ddH_takeBlock_1 : decode cH_takeBlock 1 = .ok (.getfield 46, 3) := by decide +kernel
theorem ddH_takeBlock_4 : decode cH_takeBlock 4 = .ok (.iload_n 2, 1) := by decide +kernel
theorem ddH_takeBlock_5 : decode cH_takeBlock 5 = .ok (.invokevirtual 144, 3) := by decide +kernel
theorem ddH_takeBlock_8 : decode cH_takeBlock 8 = .ok (.istore_n 3, 1) := by decide +kernel
theorem ddH_takeBlock_9 : decode cH_takeBlock 9 = .ok (.iload_n 3, 1) := by decide +kernel
theorem ddH_takeBlock_10 : decode cH_takeBlock 10 = .ok (.iconst (-1), 1) := by decide +kernel
theorem ddH_takeBlock_11 : decode cH_takeBlock 11 = .ok (.if_icmp .eq 11, 3) := by decide +kernel
theorem ddH_takeBlock_14 : decode cH_takeBlock 14 = .ok (.aload_n 0, 1) := by decide +kernel
theorem ddH_takeBlock_15 : decode cH_takeBlock 15 = .ok (.iload_n 1, 1) := by decide +kernel
theorem ddH_takeBlock_16 : decode cH_takeBlock 16 = .ok (.invokevirtual 147, 3) := by decide +kernel
theorem ddH_takeBlock_19 : decode cH_takeBlock 19 = .ok (.ifCond .ne 7, 3) := by decide +kernel
theorem ddH_takeBlock_22 : decode cH_takeBlock 22 = .ok (.iconst (-1), 1) := by decide +kernel
theorem ddH_takeBlock_23 : decode cH_takeBlock 23 = .ok (.goto 9, 3) := by decide +kernel
theorem ddH_takeBlock_26 : decode cH_takeBlock 26 = .ok (.aload_n 0, 1) := by decide +kernel
theorem ddH_takeBlock_27 : decode cH_takeBlock 27 = .ok (.iload_n 1, 1) := by decide +kernel
theorem ddH_takeBlock_28 : decode cH_takeBlock 28 = .ok (.iload_n 3, 1) := by decide +kernel
theorem ddH_takeBlock_29 : decode cH_takeBlock 29 = .ok (.invokevirtual 150, 3) := by decide +kernel
theorem ddH_takeBlock_32 : decode cH_takeBlock 32 = .ok (.istore 4, 2) := by decide +kernel
theorem ddH_takeBlock_34 : decode cH_takeBlock 34 = .ok (.iload 4, 2) := by decide +kernel
theorem ddH_takeBlock_36 : decode cH_takeBlock 36 = .ok (.iconst (-1), 1) := by decide +kernel
theorem ddH_takeBlock_37 : decode cH_takeBlock 37 = .ok (.if_icmp .ne 5, 3) := by decide +kernel
theorem ddH_takeBlock_40 : decode cH_takeBlock 40 = .ok (.iconst (-1), 1) := by decide +kernel
theorem ddH_takeBlock_41 : decode cH_takeBlock 41 = .ok (.ireturn, 1) := by decide +kernel
theorem ddH_takeBlock_42 : decode cH_takeBlock 42 = .ok (.aload_n 0, 1) := by decide +kernel
theorem ddH_takeBlock_43 : decode cH_takeBlock 43 = .ok (.iload_n 1, 1) := by decide +kernel
theorem ddH_takeBlock_44 : decode cH_takeBlock 44 = .ok (.iload 4, 2) := by decide +kernel
theorem ddH_takeBlock_46 : decode cH_takeBlock 46 = .ok (.invokevirtual 153, 3) := by decide +kernel
theorem ddH_takeBlock_49 : decode cH_takeBlock 49 = .ok (.istore 5, 2) := by decide +kernel
theorem ddH_takeBlock_51 : decode cH_takeBlock 51 = .ok (.aload_n 0, 1) := by decide +kernel
theorem ddH_takeBlock_52 : decode cH_takeBlock 52 = .ok (.iload_n 1, 1) := by decide +kernel
theorem ddH_takeBlock_53 : decode cH_takeBlock 53 = .ok (.iload_n 3, 1) := by decide +kernel
theorem ddH_takeBlock_54 : decode cH_takeBlock 54 = .ok (.iload 4, 2) := by decide +kernel
theorem ddH_takeBlock_56 : decode cH_takeBlock 56 = .ok (.invokevirtual 156, 3) := by decide +kernel
theorem ddH_takeBlock_59 : decode cH_takeBlock 59 = .ok (.iload 4, 2) := by decide +kernel
theorem ddH_takeBlock_61 : decode cH_takeBlock 61 = .ok (.bipush 100, 2) := by decide +kernel
theorem ddH_takeBlock_63 : decode cH_takeBlock 63 = .ok (.imul, 1) := by decide +kernel
theorem ddH_takeBlock_64 : decode cH_takeBlock 64 = .ok (.aload_n 0, 1) := by decide +kernel
theorem ddH_takeBlock_65 : decode cH_takeBlock 65 = .ok (.iload 4, 2) := by decide +kernel
theorem ddH_takeBlock_67 : decode cH_takeBlock 67 = .ok (.invokevirtual 160, 3) := by decide +kernel
theorem ddH_takeBlock_70 : decode cH_takeBlock 70 = .ok (.iadd, 1) := by decide +kernel
theorem ddH_takeBlock_71 : decode cH_takeBlock 71 = .ok (.istore 6, 2) := by decide +kernel
theorem ddH_takeBlock_73 : decode cH_takeBlock 73 = .ok (.aload_n 0, 1) := by decide +kernel
theorem ddH_takeBlock_74 : decode cH_takeBlock 74 = .ok (.getfield 36, 3) := by decide +kernel
theorem ddH_takeBlock_77 : decode cH_takeBlock 77 = .ok (.iload_n 1, 1) := by decide +kernel
theorem ddH_takeBlock_78 : decode cH_takeBlock 78 = .ok (.dup2, 1) := by decide +kernel
theorem ddH_takeBlock_79 : decode cH_takeBlock 79 = .ok (.iaload, 1) := by decide +kernel
theorem ddH_takeBlock_80 : decode cH_takeBlock 80 = .ok (.iconst 1, 1) := by decide +kernel
theorem ddH_takeBlock_81 : decode cH_takeBlock 81 = .ok (.iadd, 1) := by decide +kernel
theorem ddH_takeBlock_82 : decode cH_takeBlock 82 = .ok (.iastore, 1) := by decide +kernel
theorem ddH_takeBlock_83 : decode cH_takeBlock 83 = .ok (.aload_n 0, 1) := by decide +kernel
theorem ddH_takeBlock_84 : decode cH_takeBlock 84 = .ok (.getfield 42, 3) := by decide +kernel
theorem ddH_takeBlock_87 : decode cH_takeBlock 87 = .ok (.iload 6, 2) := by decide +kernel
theorem ddH_takeBlock_89 : decode cH_takeBlock 89 = .ok (.iload_n 1, 1) := by decide +kernel
theorem ddH_takeBlock_90 : decode cH_takeBlock 90 = .ok (.iload 5, 2) := by decide +kernel
theorem ddH_takeBlock_92 : decode cH_takeBlock 92 = .ok (.invokevirtual 163, 3) := by decide +kernel
theorem ddH_takeBlock_95 : decode cH_takeBlock 95 = .ok (.aload_n 0, 1) := by decide +kernel
theorem ddH_takeBlock_96 : decode cH_takeBlock 96 = .ok (.getfield 46, 3) := by decide +kernel
theorem ddH_takeBlock_99 : decode cH_takeBlock 99 = .ok (.getfield 76, 3) := by decide +kernel
theorem ddH_takeBlock_102 : decode cH_takeBlock 102 = .ok (.iconst 4, 1) := by decide +kernel
theorem ddH_takeBlock_103 : decode cH_takeBlock 103 = .ok (.iaload, 1) := by decide +kernel
theorem ddH_takeBlock_104 : decode cH_takeBlock 104 = .ok (.istore 7, 2) := by decide +kernel
theorem ddH_takeBlock_106 : decode cH_takeBlock 106 = .ok (.iload 7, 2) := by decide +kernel
theorem ddH_takeBlock_108 : decode cH_takeBlock 108 = .ok (.ifCond .le 20, 3) := by decide +kernel
theorem ddH_takeBlock_111 : decode cH_takeBlock 111 = .ok (.aload_n 0, 1) := by decide +kernel
theorem ddH_takeBlock_112 : decode cH_takeBlock 112 = .ok (.getfield 36, 3) := by decide +kernel
theorem ddH_takeBlock_115 : decode cH_takeBlock 115 = .ok (.iload_n 1, 1) := by decide +kernel
theorem ddH_takeBlock_116 : decode cH_takeBlock 116 = .ok (.iaload, 1) := by decide +kernel
theorem ddH_takeBlock_117 : decode cH_takeBlock 117 = .ok (.iload 7, 2) := by decide +kernel
theorem ddH_takeBlock_119 : decode cH_takeBlock 119 = .ok (.irem, 1) := by decide +kernel
theorem ddH_takeBlock_120 : decode cH_takeBlock 120 = .ok (.ifCond .ne 8, 3) := by decide +kernel
theorem ddH_takeBlock_123 : decode cH_takeBlock 123 = .ok (.aload_n 0, 1) := by decide +kernel
theorem ddH_takeBlock_124 : decode cH_takeBlock 124 = .ok (.iload_n 1, 1) := by decide +kernel
theorem ddH_takeBlock_125 : decode cH_takeBlock 125 = .ok (.invokevirtual 166, 3) := by decide +kernel
theorem ddH_takeBlock_128 : decode cH_takeBlock 128 = .ok (.iload 6, 2) := by decide +kernel
theorem ddH_takeBlock_130 : decode cH_takeBlock 130 = .ok (.ireturn, 1) := by decide +kernel
set_option maxHeartbeats 2000000 in
theorem zBH_takeBlock_128 {G : GXM} {X : CxM} (hG : GokM G) (C : CoM G X cH_takeBlock "HomeFreed$Heap") (N : mLM X = 8) {d : Nat} (hD : dpM X = d) (hd : 3 ≤ d)  {q : Int32 × Mem} (E : EnM G X (some .int) (some (.int q.1)) q.2 0 0) {v6 : Int32} {M : Mem} (h : BH_takeBlock_128 v6 M = some q) : ZM G X 128 [(6, .int v6)] [] M 0 0 := by
  unfold BH_takeBlock_128 at h
  refine zz_iload C 0 ddH_takeBlock_128 rfl ?_
  obtain rfl := Option.some.inj h
  exact zz_iret C E ddH_takeBlock_130
set_option maxHeartbeats 2000000 in
theorem zBH_takeBlock_32 {G : GXM} {X : CxM} (hG : GokM G) (C : CoM G X cH_takeBlock "HomeFreed$Heap") (N : mLM X = 8) {d : Nat} (hD : dpM X = d) (hd : 3 ≤ d)  {q : Int32 × Mem} (E : EnM G X (some .int) (some (.int q.1)) q.2 0 0) {v0 : Nat} {v1 : Int32} {v3 : Int32} {w0 : Int32} {M : Mem} (h : BH_takeBlock_32 v0 v1 v3 w0 M = some q) : ZM G X 32 [(0, .ref v0), (1, .int v1), (3, .int v3)] [.int w0] M 0 0 := by
  unfold BH_takeBlock_32 at h
  refine zz_istore (L1 := [(4, .int w0), (0, .ref v0), (1, .int v1), (3, .int v3)]) C ddH_takeBlock_32 N (by decide) rfl ?_
  refine zz_iload C 0 ddH_takeBlock_34 rfl ?_
  refine zz_iconst (v := (-1)) C ddH_takeBlock_36 (by decide) ?_
  refine zz_icmp_ne (tgt := 42) C ddH_takeBlock_37 rfl (fun hc => ?_) (fun hc => ?_)
  · replace h := iteF h hc
    refine zz_aload_n C 1 ddH_takeBlock_42 rfl rfl ?_
    refine zz_iload_n C 2 ddH_takeBlock_43 rfl rfl ?_
    refine zz_iload C 0 ddH_takeBlock_44 rfl ?_
    obtain ⟨h2, h⟩ := gdN h
    obtain ⟨q1, hq1, h⟩ := bindN h
    refine zz_callV0 (As := [.int v1, .int w0]) C ddH_takeBlock_46 wd_700 my_H_howFrom mv_H_howFrom ⟨_, rfl, rfl⟩ (xH_howFrom hG (d - 1) (by omega) hq1) (by omega) h2 rfl rfl (Nat.le_of_ble_eq_true rfl) ?_
    refine zz_istore (L1 := [(5, .int q1.1), (4, .int w0), (0, .ref v0), (1, .int v1), (3, .int v3)]) C ddH_takeBlock_49 N (by decide) rfl ?_
    refine zz_aload_n C 2 ddH_takeBlock_51 rfl rfl ?_
    refine zz_iload_n C 3 ddH_takeBlock_52 rfl rfl ?_
    refine zz_iload_n C 4 ddH_takeBlock_53 rfl rfl ?_
    refine zz_iload C 1 ddH_takeBlock_54 rfl ?_
    obtain ⟨h4, h⟩ := gdN h
    obtain ⟨q3, hq3, h⟩ := bindN h
    refine zz_callV0 (As := [.int v1, .int v3, .int w0]) C ddH_takeBlock_56 wd_709 my_H_bringToFront mv_H_bringToFront ⟨_, rfl, rfl⟩ (xH_bringToFront hG (d - 1) (by omega) hq3) (by omega) h4 rfl rfl (Nat.le_of_ble_eq_true rfl) ?_
    refine zz_iload C 1 ddH_takeBlock_59 rfl ?_
    refine zz_bipush (v := 100) C ddH_takeBlock_61 (by decide) ?_
    refine zz_imul C ddH_takeBlock_63 ?_
    refine zz_aload_n C 2 ddH_takeBlock_64 rfl rfl ?_
    refine zz_iload C 1 ddH_takeBlock_65 rfl ?_
    obtain ⟨h6, h⟩ := gdN h
    obtain ⟨q5, hq5, h⟩ := bindN h
    refine zz_callV0 (As := [.int w0]) C ddH_takeBlock_67 wd_734 my_H_takeReady mv_H_takeReady ⟨_, rfl, rfl⟩ (xH_takeReady hG (d - 1) (by omega) hq5) (by omega) h6 rfl rfl (Nat.le_of_ble_eq_true rfl) ?_
    refine zz_iadd C ddH_takeBlock_70 ?_
    refine zz_istore (L1 := [(6, .int ((w0 * 100) + q5.1)), (5, .int q1.1), (4, .int w0), (0, .ref v0), (1, .int v1), (3, .int v3)]) C ddH_takeBlock_71 N (by decide) rfl ?_
    refine zz_aload_n C 3 ddH_takeBlock_73 rfl rfl ?_
    obtain ⟨h7, h⟩ := gdN h
    obtain ⟨h8, h⟩ := gdN h
    refine zz_getr C ddH_takeBlock_74 fl_H_36 rfl h7 (of_decide_eq_true h8) ?_
    refine zz_iload_n C 4 ddH_takeBlock_77 rfl rfl ?_
    refine zz_dup2 C ddH_takeBlock_78 rfl rfl ?_
    obtain ⟨h9, h⟩ := gdN h
    refine zz_iaload C ddH_takeBlock_79 h9 ?_
    refine zz_iconst (v := 1) C ddH_takeBlock_80 (by decide) ?_
    refine zz_iadd C ddH_takeBlock_81 ?_
    obtain ⟨h10, h⟩ := gdN h
    refine zz_iastore C ddH_takeBlock_82 h10 ?_
    refine zz_aload_n C 3 ddH_takeBlock_83 rfl rfl ?_
    obtain ⟨h11, h⟩ := gdN h
    refine zz_getr C ddH_takeBlock_84 fl_H_42 rfl h7 (of_decide_eq_true h11) ?_
    refine zz_iload C 0 ddH_takeBlock_87 rfl ?_
    refine zz_iload_n C 4 ddH_takeBlock_89 rfl rfl ?_
    refine zz_iload C 1 ddH_takeBlock_90 rfl ?_
    obtain ⟨h13, h⟩ := gdN h
    obtain ⟨q12, hq12, h⟩ := bindN h
    refine zz_callV0 (As := [.int ((w0 * 100) + q5.1), .int v1, .int q1.1]) C ddH_takeBlock_92 wd_743 my_L_note mv_L_note ⟨_, rfl, rfl⟩ (xL_note hG (d - 1) (by omega) hq12) (by omega) h13 rfl rfl (Nat.le_of_ble_eq_true rfl) ?_
    refine zz_aload_n C 3 ddH_takeBlock_95 rfl rfl ?_
    obtain ⟨h14, h⟩ := gdN h
    obtain ⟨h15, h⟩ := gdN h
    refine zz_getr C ddH_takeBlock_96 fl_H_46 rfl h14 (of_decide_eq_true h15) ?_
    obtain ⟨h16, h⟩ := gdN h
    obtain ⟨h17, h⟩ := gdN h
    refine zz_getr C ddH_takeBlock_99 fl_H_76 rfl h16 (of_decide_eq_true h17) ?_
    refine zz_iconst (v := 4) C ddH_takeBlock_102 (by decide) ?_
    obtain ⟨h18, h⟩ := gdN h
    refine zz_iaload C ddH_takeBlock_103 h18 ?_
    refine zz_istore (L1 := [(7, .int (giM q12 (grM q12 (grM q12 v0 0) 0) (Int32.toNatClampNeg 4))), (6, .int ((w0 * 100) + q5.1)), (5, .int q1.1), (4, .int w0), (0, .ref v0), (1, .int v1), (3, .int v3)]) C ddH_takeBlock_104 N (by decide) rfl ?_
    refine zz_iload C 0 ddH_takeBlock_106 rfl ?_
    refine zz_if_le (tgt := 128) C ddH_takeBlock_108 rfl (fun hc => ?_) (fun hc => ?_)
    · replace h := iteT h hc
      refine zz_loc (L1 := [(6, .int ((w0 * 100) + q5.1))]) [1] rfl ?_
      exact zBH_takeBlock_128 hG C N hD hd E h
    · replace h := iteF h hc
      refine zz_aload_n C 4 ddH_takeBlock_111 rfl rfl ?_
      obtain ⟨h19, h⟩ := gdN h
      refine zz_getr C ddH_takeBlock_112 fl_H_36 rfl h14 (of_decide_eq_true h19) ?_
      refine zz_iload_n C 5 ddH_takeBlock_115 rfl rfl ?_
      obtain ⟨h20, h⟩ := gdN h
      refine zz_iaload C ddH_takeBlock_116 h20 ?_
      refine zz_iload C 0 ddH_takeBlock_117 rfl ?_
      obtain ⟨h21, h⟩ := gdN h
      refine zz_irem C ddH_takeBlock_119 (of_decide_eq_true h21) ?_
      refine zz_if_ne (tgt := 128) C ddH_takeBlock_120 rfl (fun hc => ?_) (fun hc => ?_)
      · replace h := iteF h hc
        refine zz_loc (L1 := [(6, .int ((w0 * 100) + q5.1))]) [1] rfl ?_
        exact zBH_takeBlock_128 hG C N hD hd E h
      · replace h := iteT h hc
        refine zz_aload_n C 4 ddH_takeBlock_123 rfl rfl ?_
        refine zz_iload_n C 5 ddH_takeBlock_124 rfl rfl ?_
        obtain ⟨q22, hq22, h⟩ := bindN h
        refine zz_callV0 (As := [.int v1]) C ddH_takeBlock_125 wd_750 my_H_beat mv_H_beat ⟨_, rfl, rfl⟩ (xH_beat hG (d - 1) (by omega) hq22) (by omega) h14 rfl rfl (Nat.le_of_ble_eq_true rfl) ?_
        refine zz_loc (L1 := [(6, .int ((w0 * 100) + q5.1))]) [1] rfl ?_
        exact zBH_takeBlock_128 hG C N hD hd E h
  · replace h := iteT h hc
    refine zz_iconst (v := (-1)) C ddH_takeBlock_40 (by decide) ?_
    obtain rfl := Option.some.inj h
    exact zz_iret C E ddH_takeBlock_41
set_option maxHeartbeats 2000000 in
theorem zBH_takeBlock_22 {G : GXM} {X : CxM} (hG : GokM G) (C : CoM G X cH_takeBlock "HomeFreed$Heap") (N : mLM X = 8) {d : Nat} (hD : dpM X = d) (hd : 3 ≤ d)  {q : Int32 × Mem} (E : EnM G X (some .int) (some (.int q.1)) q.2 0 0) {v0 : Nat} {v1 : Int32} {v3 : Int32} {M : Mem} (h : BH_takeBlock_22 v0 v1 v3 M = some q) : ZM G X 22 [(0, .ref v0), (1, .int v1), (3, .int v3)] [] M 0 0 := by
  unfold BH_takeBlock_22 at h
  refine zz_iconst (v := (-1)) C ddH_takeBlock_22 (by decide) ?_
  refine zz_goto (tgt := 32) C ddH_takeBlock_23 rfl ?_
  exact zBH_takeBlock_32 hG C N hD hd E h
set_option maxHeartbeats 2000000 in
theorem xH_takeBlock {G : GXM} {l : Launch} (hG : GokM G) (d : Nat) (hd : 3 ≤ d) {v0 : Nat} {v1 : Int32} {v2 : Int32} {M : Mem} {q : Int32 × Mem} (h : fH_takeBlock v0 v1 v2 M = some q) : ExM G l d 0 0 yH_takeBlock cH_takeBlock 8 (some .int) [.ref v0, .int v1, .int v2] M (some (.int q.1)) q.2 := by
  refine ex_of hG (by decide +kernel) (Nat.le_of_ble_eq_true rfl) ?_
  intro X hl C E N hD hn
  show ZM G X 0 [(0, .ref v0), (1, .int v1), (2, .int v2)] [] M 0 0
  unfold fH_takeBlock at h
  refine zz_aload_n C 0 ddH_takeBlock_0 rfl rfl ?_
  obtain ⟨h1, h⟩ := gdN h
  obtain ⟨h2, h⟩ := gdN h
  refine zz_getr C ddH_takeBlock_1 fl_H_46 rfl h1 (of_decide_eq_true h2) ?_
  refine zz_iload_n C 2 ddH_takeBlock_4 rfl rfl ?_
  obtain ⟨h4, h⟩ := gdN h
  obtain ⟨q3, hq3, h⟩ := bindN h
  refine zz_callV0 (As := [.int v2]) C ddH_takeBlock_5 wd_697 my_U_kindFor mv_U_kindFor ⟨_, rfl, rfl⟩ (xU_kindFor hG (d - 1) (by omega) hq3) (by omega) h4 rfl rfl (Nat.le_of_ble_eq_true rfl) ?_
  refine zz_istore_n (L1 := [(3, .int q3.1), (0, .ref v0), (1, .int v1), (2, .int v2)]) C ddH_takeBlock_8 rfl N (by decide) rfl ?_
  refine zz_iload_n C 0 ddH_takeBlock_9 rfl rfl ?_
  refine zz_iconst (v := (-1)) C ddH_takeBlock_10 (by decide) ?_
  refine zz_icmp_eq (tgt := 22) C ddH_takeBlock_11 rfl (fun hc => ?_) (fun hc => ?_)
  · replace h := iteT h hc
    refine zz_loc (L1 := [(0, .ref v0), (1, .int v1), (3, .int q3.1)]) [1, 2, 0] rfl ?_
    exact zBH_takeBlock_22 hG C N hD hd E h
  · replace h := iteF h hc
    refine zz_aload_n C 1 ddH_takeBlock_14 rfl rfl ?_
    refine zz_iload_n C 2 ddH_takeBlock_15 rfl rfl ?_
    obtain ⟨h6, h⟩ := gdN h
    obtain ⟨q5, hq5, h⟩ := bindN h
    refine zz_callV0 (As := [.int v1]) C ddH_takeBlock_16 wd_698 my_H_isLiving mv_H_isLiving ⟨_, rfl, rfl⟩ (xH_isLiving hG (d - 1) (by omega) hq5) (by omega) h6 rfl rfl (Nat.le_of_ble_eq_true rfl) ?_
    refine zz_if_ne (tgt := 26) C ddH_takeBlock_19 rfl (fun hc => ?_) (fun hc => ?_)
    · replace h := iteF h hc
      refine zz_aload_n C 1 ddH_takeBlock_26 rfl rfl ?_
      refine zz_iload_n C 2 ddH_takeBlock_27 rfl rfl ?_
      refine zz_iload_n C 0 ddH_takeBlock_28 rfl rfl ?_
      obtain ⟨h8, h⟩ := gdN h
      obtain ⟨q7, hq7, h⟩ := bindN h
      refine zz_callV0 (As := [.int v1, .int q3.1]) C ddH_takeBlock_29 wd_699 my_H_pageFor mv_H_pageFor ⟨_, rfl, rfl⟩ (xH_pageFor hG (d - 1) (by omega) hq7) (by omega) h8 rfl rfl (Nat.le_of_ble_eq_true rfl) ?_
      refine zz_loc (L1 := [(0, .ref v0), (1, .int v1), (3, .int q3.1)]) [1, 2, 0] rfl ?_
      exact zBH_takeBlock_32 hG C N hD hd E h
    · replace h := iteT h hc
      refine zz_loc (L1 := [(0, .ref v0), (1, .int v1), (3, .int q3.1)]) [1, 2, 0] rfl ?_
      exact zBH_takeBlock_22 hG C N hD hd E h
theorem ddA_get_0 : decode cA_get 0 = .ok (.aload_n 0, 1) := by decide +kernel
theorem ddA_get_1 : decode cA_get 1 = .ok (.getfield 55, 3) := by decide +kernel
theorem ddA_get_4 : decode cA_get 4 = .ok (.iload_n 1, 1) := by decide +kernel
theorem ddA_get_5 : decode cA_get 5 = .ok (.invokevirtual 187, 3) := by decide +kernel
theorem ddA_get_8 : decode cA_get 8 = .ok (.ifCond .ne 9, 3) := by decide +kernel
theorem ddA_get_11 : decode cA_get 11 = .ok (.aload_n 0, 1) := by decide +kernel
theorem ddA_get_12 : decode cA_get 12 = .ok (.iconst 0, 1) := by decide +kernel
theorem ddA_get_13 : decode cA_get 13 = .ok (.invokevirtual 217, 3) := by decide +kernel
theorem ddA_get_16 : decode cA_get 16 = .ok (.ireturn, 1) := by decide +kernel
theorem ddA_get_17 : decode cA_get 17 = .ok (.aload_n 0, 1) := by decide +kernel
theorem ddA_get_18 : decode cA_get 18 = .ok (.getfield 28, 3) := by decide +kernel
theorem ddA_get_21 : decode cA_get 21 = .ok (.iload_n 2, 1) := by decide +kernel
theorem ddA_get_22 : decode cA_get 22 = .ok (.invokevirtual 220, 3) := by decide +kernel
theorem ddA_get_25 : decode cA_get 25 = .ok (.istore_n 3, 1) := by decide +kernel
theorem ddA_get_26 : decode cA_get 26 = .ok (.iload_n 3, 1) := by decide +kernel
theorem ddA_get_27 : decode cA_get 27 = .ok (.iconst (-1), 1) := by decide +kernel
theorem ddA_get_28 : decode cA_get 28 = .ok (.if_icmp .ne 9, 3) := by decide +kernel
theorem ddA_get_31 : decode cA_get 31 = .ok (.aload_n 0, 1) := by decide +kernel
theorem ddA_get_32 : decode cA_get 32 = .ok (.iconst 1, 1) := by decide +kernel
theorem ddA_get_33 : decode cA_get 33 = .ok (.invokevirtual 217, 3) := by decide +kernel
theorem ddA_get_36 : decode cA_get 36 = .ok (.ireturn, 1) := by decide +kernel
theorem ddA_get_37 : decode cA_get 37 = .ok (.aload_n 0, 1) := by decide +kernel
theorem ddA_get_38 : decode cA_get 38 = .ok (.getfield 55, 3) := by decide +kernel
theorem ddA_get_41 : decode cA_get 41 = .ok (.iload_n 1, 1) := by decide +kernel
theorem ddA_get_42 : decode cA_get 42 = .ok (.invokevirtual 190, 3) := by decide +kernel
theorem ddA_get_45 : decode cA_get 45 = .ok (.ifCond .ne 9, 3) := by decide +kernel
theorem ddA_get_48 : decode cA_get 48 = .ok (.aload_n 0, 1) := by decide +kernel
theorem ddA_get_49 : decode cA_get 49 = .ok (.iconst 2, 1) := by decide +kernel
theorem ddA_get_50 : decode cA_get 50 = .ok (.invokevirtual 217, 3) := by decide +kernel
theorem ddA_get_53 : decode cA_get 53 = .ok (.ireturn, 1) := by decide +kernel
theorem ddA_get_54 : decode cA_get 54 = .ok (.aload_n 0, 1) := by decide +kernel
theorem ddA_get_55 : decode cA_get 55 = .ok (.getfield 55, 3) := by decide +kernel
theorem ddA_get_58 : decode cA_get 58 = .ok (.iload_n 1, 1) := by decide +kernel
theorem ddA_get_59 : decode cA_get 59 = .ok (.iload_n 3, 1) := by decide +kernel
theorem ddA_get_60 : decode cA_get 60 = .ok (.invokevirtual 223, 3) := by decide +kernel
theorem ddA_get_63 : decode cA_get 63 = .ok (.iconst (-1), 1) := by decide +kernel
theorem ddA_get_64 : decode cA_get 64 = .ok (.if_icmp .ne 9, 3) := by decide +kernel
theorem ddA_get_67 : decode cA_get 67 = .ok (.aload_n 0, 1) := by decide +kernel
theorem ddA_get_68 : decode cA_get 68 = .ok (.iconst 3, 1) := by decide +kernel
theorem ddA_get_69 : decode cA_get 69 = .ok (.invokevirtual 217, 3) := by decide +kernel
theorem ddA_get_72 : decode cA_get 72 = .ok (.ireturn, 1) := by decide +kernel
theorem ddA_get_73 : decode cA_get 73 = .ok (.aload_n 0, 1) := by decide +kernel
theorem ddA_get_74 : decode cA_get 74 = .ok (.getfield 62, 3) := by decide +kernel
theorem ddA_get_77 : decode cA_get 77 = .ok (.aload_n 0, 1) := by decide +kernel
theorem ddA_get_78 : decode cA_get 78 = .ok (.getfield 55, 3) := by decide +kernel
theorem ddA_get_81 : decode cA_get 81 = .ok (.invokevirtual 226, 3) := by decide +kernel
theorem ddA_get_84 : decode cA_get 84 = .ok (.aload_n 0, 1) := by decide +kernel
theorem ddA_get_85 : decode cA_get 85 = .ok (.getfield 55, 3) := by decide +kernel
theorem ddA_get_88 : decode cA_get 88 = .ok (.iload_n 1, 1) := by decide +kernel
theorem ddA_get_89 : decode cA_get 89 = .ok (.iload_n 2, 1) := by decide +kernel
theorem ddA_get_90 : decode cA_get 90 = .ok (.invokevirtual 230, 3) := by decide +kernel
theorem ddA_get_93 : decode cA_get 93 = .ok (.ireturn, 1) := by decide +kernel
set_option maxHeartbeats 2000000 in
theorem xA_get {G : GXM} {l : Launch} (hG : GokM G) (d : Nat) (hd : 4 ≤ d) {v0 : Nat} {v1 : Int32} {v2 : Int32} {M : Mem} {q : Int32 × Mem} (h : fA_get v0 v1 v2 M = some q) : ExM G l d 0 0 yA_get cA_get 4 (some .int) [.ref v0, .int v1, .int v2] M (some (.int q.1)) q.2 := by
  refine ex_of hG (by decide +kernel) (Nat.le_of_ble_eq_true rfl) ?_
  intro X hl C E N hD hn
  show ZM G X 0 [(0, .ref v0), (1, .int v1), (2, .int v2)] [] M 0 0
  unfold fA_get at h
  refine zz_aload_n C 0 ddA_get_0 rfl rfl ?_
  obtain ⟨h1, h⟩ := gdN h
  obtain ⟨h2, h⟩ := gdN h
  refine zz_getr C ddA_get_1 fl_A_55 rfl h1 (of_decide_eq_true h2) ?_
  refine zz_iload_n C 1 ddA_get_4 rfl rfl ?_
  obtain ⟨h4, h⟩ := gdN h
  obtain ⟨q3, hq3, h⟩ := bindN h
  refine zz_callV0 (As := [.int v1]) C ddA_get_5 wd_602 my_H_isThread mv_H_isThread ⟨_, rfl, rfl⟩ (xH_isThread hG (d - 1) (by omega) hq3) (by omega) h4 rfl rfl (Nat.le_of_ble_eq_true rfl) ?_
  refine zz_if_ne (tgt := 17) C ddA_get_8 rfl (fun hc => ?_) (fun hc => ?_)
  · replace h := iteF h hc
    refine zz_aload_n C 0 ddA_get_17 rfl rfl ?_
    obtain ⟨h5, h⟩ := gdN h
    obtain ⟨h6, h⟩ := gdN h
    refine zz_getr C ddA_get_18 fl_A_28 rfl h5 (of_decide_eq_true h6) ?_
    refine zz_iload_n C 2 ddA_get_21 rfl rfl ?_
    obtain ⟨h8, h⟩ := gdN h
    obtain ⟨q7, hq7, h⟩ := bindN h
    refine zz_callV0 (As := [.int v2]) C ddA_get_22 wd_661 my_U_kindFor mv_U_kindFor ⟨_, rfl, rfl⟩ (xU_kindFor hG (d - 1) (by omega) hq7) (by omega) h8 rfl rfl (Nat.le_of_ble_eq_true rfl) ?_
    refine zz_istore_n (L1 := [(3, .int q7.1), (0, .ref v0), (1, .int v1), (2, .int v2)]) C ddA_get_25 rfl N (by decide) rfl ?_
    refine zz_iload_n C 0 ddA_get_26 rfl rfl ?_
    refine zz_iconst (v := (-1)) C ddA_get_27 (by decide) ?_
    refine zz_icmp_ne (tgt := 37) C ddA_get_28 rfl (fun hc => ?_) (fun hc => ?_)
    · replace h := iteF h hc
      refine zz_aload_n C 1 ddA_get_37 rfl rfl ?_
      obtain ⟨h9, h⟩ := gdN h
      obtain ⟨h10, h⟩ := gdN h
      refine zz_getr C ddA_get_38 fl_A_55 rfl h9 (of_decide_eq_true h10) ?_
      refine zz_iload_n C 2 ddA_get_41 rfl rfl ?_
      obtain ⟨h12, h⟩ := gdN h
      obtain ⟨q11, hq11, h⟩ := bindN h
      refine zz_callV0 (As := [.int v1]) C ddA_get_42 wd_606 my_H_isLiving mv_H_isLiving ⟨_, rfl, rfl⟩ (xH_isLiving hG (d - 1) (by omega) hq11) (by omega) h12 rfl rfl (Nat.le_of_ble_eq_true rfl) ?_
      refine zz_if_ne (tgt := 54) C ddA_get_45 rfl (fun hc => ?_) (fun hc => ?_)
      · replace h := iteF h hc
        refine zz_aload_n C 1 ddA_get_54 rfl rfl ?_
        obtain ⟨h13, h⟩ := gdN h
        obtain ⟨h14, h⟩ := gdN h
        refine zz_getr C ddA_get_55 fl_A_55 rfl h13 (of_decide_eq_true h14) ?_
        refine zz_iload_n C 2 ddA_get_58 rfl rfl ?_
        refine zz_iload_n C 0 ddA_get_59 rfl rfl ?_
        obtain ⟨h16, h⟩ := gdN h
        obtain ⟨q15, hq15, h⟩ := bindN h
        refine zz_callV0 (As := [.int v1, .int q7.1]) C ddA_get_60 wd_665 my_H_pageFor mv_H_pageFor ⟨_, rfl, rfl⟩ (xH_pageFor hG (d - 1) (by omega) hq15) (by omega) h16 rfl rfl (Nat.le_of_ble_eq_true rfl) ?_
        refine zz_iconst (v := (-1)) C ddA_get_63 (by decide) ?_
        refine zz_icmp_ne (tgt := 73) C ddA_get_64 rfl (fun hc => ?_) (fun hc => ?_)
        · replace h := iteF h hc
          refine zz_aload_n C 1 ddA_get_73 rfl rfl ?_
          obtain ⟨h17, h⟩ := gdN h
          obtain ⟨h18, h⟩ := gdN h
          refine zz_getr C ddA_get_74 fl_A_62 rfl h17 (of_decide_eq_true h18) ?_
          refine zz_aload_n C 1 ddA_get_77 rfl rfl ?_
          obtain ⟨h19, h⟩ := gdN h
          refine zz_getr C ddA_get_78 fl_A_55 rfl h17 (of_decide_eq_true h19) ?_
          obtain ⟨h21, h⟩ := gdN h
          obtain ⟨q20, hq20, h⟩ := bindN h
          refine zz_callV0 (As := [.ref (grM q15.2 v0 7)]) C ddA_get_81 wd_674 my_P_keep mv_P_keep ⟨_, rfl, rfl⟩ (xP_keep hG (d - 1) (by omega) hq20) (by omega) h21 rfl rfl (Nat.le_of_ble_eq_true rfl) ?_
          refine zz_aload_n C 1 ddA_get_84 rfl rfl ?_
          obtain ⟨h22, h⟩ := gdN h
          obtain ⟨h23, h⟩ := gdN h
          refine zz_getr C ddA_get_85 fl_A_55 rfl h22 (of_decide_eq_true h23) ?_
          refine zz_iload_n C 2 ddA_get_88 rfl rfl ?_
          refine zz_iload_n C 3 ddA_get_89 rfl rfl ?_
          obtain ⟨h25, h⟩ := gdN h
          obtain ⟨q24, hq24, h⟩ := bindN h
          refine zz_callV0 (As := [.int v1, .int v2]) C ddA_get_90 wd_693 my_H_takeBlock mv_H_takeBlock ⟨_, rfl, rfl⟩ (xH_takeBlock hG (d - 1) (by omega) hq24) (by omega) h25 rfl rfl (Nat.le_of_ble_eq_true rfl) ?_
          obtain rfl := Option.some.inj h
          exact zz_iret C E ddA_get_93
        · replace h := iteT h hc
          refine zz_aload_n C 1 ddA_get_67 rfl rfl ?_
          refine zz_iconst (v := 3) C ddA_get_68 (by decide) ?_
          obtain ⟨h27, h⟩ := gdN h
          obtain ⟨q26, hq26, h⟩ := bindN h
          refine zz_callV0 (As := [.int 3]) C ddA_get_69 wd_657 my_A_refuse mv_A_refuse ⟨_, rfl, rfl⟩ (xA_refuse hG (d - 1) (by omega) hq26) (by omega) h27 rfl rfl (Nat.le_of_ble_eq_true rfl) ?_
          obtain rfl := Option.some.inj h
          exact zz_iret C E ddA_get_72
      · replace h := iteT h hc
        refine zz_aload_n C 1 ddA_get_48 rfl rfl ?_
        refine zz_iconst (v := 2) C ddA_get_49 (by decide) ?_
        obtain ⟨h29, h⟩ := gdN h
        obtain ⟨q28, hq28, h⟩ := bindN h
        refine zz_callV0 (As := [.int 2]) C ddA_get_50 wd_657 my_A_refuse mv_A_refuse ⟨_, rfl, rfl⟩ (xA_refuse hG (d - 1) (by omega) hq28) (by omega) h29 rfl rfl (Nat.le_of_ble_eq_true rfl) ?_
        obtain rfl := Option.some.inj h
        exact zz_iret C E ddA_get_53
    · replace h := iteT h hc
      refine zz_aload_n C 1 ddA_get_31 rfl rfl ?_
      refine zz_iconst (v := 1) C ddA_get_32 (by decide) ?_
      obtain ⟨h31, h⟩ := gdN h
      obtain ⟨q30, hq30, h⟩ := bindN h
      refine zz_callV0 (As := [.int 1]) C ddA_get_33 wd_657 my_A_refuse mv_A_refuse ⟨_, rfl, rfl⟩ (xA_refuse hG (d - 1) (by omega) hq30) (by omega) h31 rfl rfl (Nat.le_of_ble_eq_true rfl) ?_
      obtain rfl := Option.some.inj h
      exact zz_iret C E ddA_get_36
  · replace h := iteT h hc
    refine zz_aload_n C 0 ddA_get_11 rfl rfl ?_
    refine zz_iconst (v := 0) C ddA_get_12 (by decide) ?_
    obtain ⟨h33, h⟩ := gdN h
    obtain ⟨q32, hq32, h⟩ := bindN h
    refine zz_callV0 (As := [.int 0]) C ddA_get_13 wd_657 my_A_refuse mv_A_refuse ⟨_, rfl, rfl⟩ (xA_refuse hG (d - 1) (by omega) hq32) (by omega) h33 rfl rfl (Nat.le_of_ble_eq_true rfl) ?_
    obtain rfl := Option.some.inj h
    exact zz_iret C E ddA_get_16
theorem ddH_giveBlock_0 : decode cH_giveBlock 0 = .ok (.aload_n 0, 1) := by decide +kernel
theorem ddH_giveBlock_1 : decode cH_giveBlock 1 = .ok (.iload_n 1, 1) := by decide +kernel
theorem ddH_giveBlock_2 : decode cH_giveBlock 2 = .ok (.invokevirtual 147, 3) := by decide +kernel
theorem ddH_giveBlock_5 : decode cH_giveBlock 5 = .ok (.ifCond .eq 11, 3) := by decide +kernel
theorem ddH_giveBlock_8 : decode cH_giveBlock 8 = .ok (.aload_n 0, 1) := by decide +kernel
theorem ddH_giveBlock_9 : decode cH_giveBlock 9 = .ok (.iload_n 2, 1) := by decide +kernel
theorem ddH_giveBlock_10 : decode cH_giveBlock 10 = .ok (.invokevirtual 190, 3) := by decide +kernel
theorem ddH_giveBlock_13 : decode cH_giveBlock 13 = .ok (.ifCond .ne 5, 3) := by decide +kernel
theorem ddH_giveBlock_16 : decode cH_giveBlock 16 = .ok (.iconst (-1), 1) := by decide +kernel
theorem ddH_giveBlock_17 : decode cH_giveBlock 17 = .ok (.ireturn, 1) := by decide +kernel
theorem ddH_giveBlock_18 : decode cH_giveBlock 18 = .ok (.iload_n 2, 1) := by decide +kernel
theorem ddH_giveBlock_19 : decode cH_giveBlock 19 = .ok (.bipush 100, 2) := by decide +kernel
theorem ddH_giveBlock_21 : decode cH_giveBlock 21 = .ok (.idiv, 1) := by decide +kernel
theorem ddH_giveBlock_22 : decode cH_giveBlock 22 = .ok (.istore_n 3, 1) := by decide +kernel
theorem ddH_giveBlock_23 : decode cH_giveBlock 23 = .ok (.aload_n 0, 1) := by decide +kernel
theorem ddH_giveBlock_24 : decode cH_giveBlock 24 = .ok (.getfield 15, 3) := by decide +kernel
theorem ddH_giveBlock_27 : decode cH_giveBlock 27 = .ok (.iload_n 3, 1) := by decide +kernel
theorem ddH_giveBlock_28 : decode cH_giveBlock 28 = .ok (.iaload, 1) := by decide +kernel
theorem ddH_giveBlock_29 : decode cH_giveBlock 29 = .ok (.iload_n 1, 1) := by decide +kernel
theorem ddH_giveBlock_30 : decode cH_giveBlock 30 = .ok (.if_icmp .eq 74, 3) := by decide +kernel
theorem ddH_giveBlock_33 : decode cH_giveBlock 33 = .ok (.aload_n 0, 1) := by decide +kernel
theorem ddH_giveBlock_34 : decode cH_giveBlock 34 = .ok (.iload_n 1, 1) := by decide +kernel
theorem ddH_giveBlock_35 : decode cH_giveBlock 35 = .ok (.iload_n 3, 1) := by decide +kernel
theorem ddH_giveBlock_36 : decode cH_giveBlock 36 = .ok (.invokevirtual 98, 3) := by decide +kernel
theorem ddH_giveBlock_39 : decode cH_giveBlock 39 = .ok (.istore 4, 2) := by decide +kernel
theorem ddH_giveBlock_41 : decode cH_giveBlock 41 = .ok (.aload_n 0, 1) := by decide +kernel
theorem ddH_giveBlock_42 : decode cH_giveBlock 42 = .ok (.getfield 30, 3) := by decide +kernel
theorem ddH_giveBlock_45 : decode cH_giveBlock 45 = .ok (.iload 4, 2) := by decide +kernel
theorem ddH_giveBlock_47 : decode cH_giveBlock 47 = .ok (.aload_n 0, 1) := by decide +kernel
theorem ddH_giveBlock_48 : decode cH_giveBlock 48 = .ok (.iload_n 2, 1) := by decide +kernel
theorem ddH_giveBlock_49 : decode cH_giveBlock 49 = .ok (.invokevirtual 91, 3) := by decide +kernel
theorem ddH_giveBlock_52 : decode cH_giveBlock 52 = .ok (.invokevirtual 181, 3) := by decide +kernel
theorem ddH_giveBlock_55 : decode cH_giveBlock 55 = .ok (.aload_n 0, 1) := by decide +kernel
theorem ddH_giveBlock_56 : decode cH_giveBlock 56 = .ok (.getfield 30, 3) := by decide +kernel
theorem ddH_giveBlock_59 : decode cH_giveBlock 59 = .ok (.getfield 95, 3) := by decide +kernel
theorem ddH_giveBlock_62 : decode cH_giveBlock 62 = .ok (.iload 4, 2) := by decide +kernel
theorem ddH_giveBlock_64 : decode cH_giveBlock 64 = .ok (.iaload, 1) := by decide +kernel
theorem ddH_giveBlock_65 : decode cH_giveBlock 65 = .ok (.aload_n 0, 1) := by decide +kernel
theorem ddH_giveBlock_66 : decode cH_giveBlock 66 = .ok (.getfield 46, 3) := by decide +kernel
theorem ddH_giveBlock_69 : decode cH_giveBlock 69 = .ok (.getfield 76, 3) := by decide +kernel
theorem ddH_giveBlock_72 : decode cH_giveBlock 72 = .ok (.iconst 3, 1) := by decide +kernel
theorem ddH_giveBlock_73 : decode cH_giveBlock 73 = .ok (.iaload, 1) := by decide +kernel
theorem ddH_giveBlock_74 : decode cH_giveBlock 74 = .ok (.if_icmp .lt 7, 3) := by decide +kernel
theorem ddH_giveBlock_77 : decode cH_giveBlock 77 = .ok (.iconst 1, 1) := by decide +kernel
theorem ddH_giveBlock_78 : decode cH_giveBlock 78 = .ok (.goto 4, 3) := by decide +kernel
theorem ddH_giveBlock_81 : decode cH_giveBlock 81 = .ok (.iconst 0, 1) := by decide +kernel
theorem ddH_giveBlock_82 : decode cH_giveBlock 82 = .ok (.istore 5, 2) := by decide +kernel
theorem ddH_giveBlock_84 : decode cH_giveBlock 84 = .ok (.iload 5, 2) := by decide +kernel
theorem ddH_giveBlock_86 : decode cH_giveBlock 86 = .ok (.ifCond .eq 16, 3) := by decide +kernel
theorem ddH_giveBlock_89 : decode cH_giveBlock 89 = .ok (.aload_n 0, 1) := by decide +kernel
theorem ddH_giveBlock_90 : decode cH_giveBlock 90 = .ok (.iload_n 1, 1) := by decide +kernel
theorem ddH_giveBlock_91 : decode cH_giveBlock 91 = .ok (.iload_n 3, 1) := by decide +kernel
theorem ddH_giveBlock_92 : decode cH_giveBlock 92 = .ok (.invokevirtual 193, 3) := by decide +kernel
theorem ddH_giveBlock_95 : decode cH_giveBlock 95 = .ok (.ifCond .le 7, 3) := by decide +kernel
theorem ddH_giveBlock_98 : decode cH_giveBlock 98 = .ok (.iconst 2, 1) := by decide +kernel
theorem ddH_giveBlock_99 : decode cH_giveBlock 99 = .ok (.goto 4, 3) := by decide +kernel
theorem ddH_giveBlock_102 : decode cH_giveBlock 102 = .ok (.iconst 1, 1) := by decide +kernel
theorem ddH_giveBlock_103 : decode cH_giveBlock 103 = .ok (.ireturn, 1) := by decide +kernel
theorem ddH_giveBlock_104 : decode cH_giveBlock 104 = .ok (.aload_n 0, 1) := by decide +kernel
theorem ddH_giveBlock_105 : decode cH_giveBlock 105 = .ok (.getfield 30, 3) := by decide +kernel
theorem ddH_giveBlock_108 : decode cH_giveBlock 108 = .ok (.aload_n 0, 1) := by decide +kernel
theorem ddH_giveBlock_109 : decode cH_giveBlock 109 = .ok (.iload_n 3, 1) := by decide +kernel
theorem ddH_giveBlock_110 : decode cH_giveBlock 110 = .ok (.iconst 1, 1) := by decide +kernel
theorem ddH_giveBlock_111 : decode cH_giveBlock 111 = .ok (.invokevirtual 126, 3) := by decide +kernel
theorem ddH_giveBlock_114 : decode cH_giveBlock 114 = .ok (.aload_n 0, 1) := by decide +kernel
theorem ddH_giveBlock_115 : decode cH_giveBlock 115 = .ok (.iload_n 2, 1) := by decide +kernel
theorem ddH_giveBlock_116 : decode cH_giveBlock 116 = .ok (.invokevirtual 91, 3) := by decide +kernel
theorem ddH_giveBlock_119 : decode cH_giveBlock 119 = .ok (.invokevirtual 181, 3) := by decide +kernel
theorem ddH_giveBlock_122 : decode cH_giveBlock 122 = .ok (.aload_n 0, 1) := by decide +kernel
theorem ddH_giveBlock_123 : decode cH_giveBlock 123 = .ok (.iload_n 1, 1) := by decide +kernel
theorem ddH_giveBlock_124 : decode cH_giveBlock 124 = .ok (.aload_n 0, 1) := by decide +kernel
theorem ddH_giveBlock_125 : decode cH_giveBlock 125 = .ok (.getfield 9, 3) := by decide +kernel
theorem ddH_giveBlock_128 : decode cH_giveBlock 128 = .ok (.iload_n 3, 1) := by decide +kernel
theorem ddH_giveBlock_129 : decode cH_giveBlock 129 = .ok (.iaload, 1) := by decide +kernel
theorem ddH_giveBlock_130 : decode cH_giveBlock 130 = .ok (.invokevirtual 138, 3) := by decide +kernel
theorem ddH_giveBlock_133 : decode cH_giveBlock 133 = .ok (.istore 4, 2) := by decide +kernel
theorem ddH_giveBlock_135 : decode cH_giveBlock 135 = .ok (.aload_n 0, 1) := by decide +kernel
theorem ddH_giveBlock_136 : decode cH_giveBlock 136 = .ok (.getfield 26, 3) := by decide +kernel
theorem ddH_giveBlock_139 : decode cH_giveBlock 139 = .ok (.getfield 88, 3) := by decide +kernel
theorem ddH_giveBlock_142 : decode cH_giveBlock 142 = .ok (.iload_n 3, 1) := by decide +kernel
theorem ddH_giveBlock_143 : decode cH_giveBlock 143 = .ok (.iaload, 1) := by decide +kernel
theorem ddH_giveBlock_144 : decode cH_giveBlock 144 = .ok (.iconst (-1), 1) := by decide +kernel
theorem ddH_giveBlock_145 : decode cH_giveBlock 145 = .ok (.if_icmp .ne 13, 3) := by decide +kernel
theorem ddH_giveBlock_148 : decode cH_giveBlock 148 = .ok (.aload_n 0, 1) := by decide +kernel
theorem ddH_giveBlock_149 : decode cH_giveBlock 149 = .ok (.getfield 26, 3) := by decide +kernel
theorem ddH_giveBlock_152 : decode cH_giveBlock 152 = .ok (.iload 4, 2) := by decide +kernel
theorem ddH_giveBlock_154 : decode cH_giveBlock 154 = .ok (.iload_n 3, 1) := by decide +kernel
theorem ddH_giveBlock_155 : decode cH_giveBlock 155 = .ok (.invokevirtual 175, 3) := by decide +kernel
theorem ddH_giveBlock_158 : decode cH_giveBlock 158 = .ok (.aload_n 0, 1) := by decide +kernel
theorem ddH_giveBlock_159 : decode cH_giveBlock 159 = .ok (.iload_n 3, 1) := by decide +kernel
theorem ddH_giveBlock_160 : decode cH_giveBlock 160 = .ok (.invokevirtual 102, 3) := by decide +kernel
theorem ddH_giveBlock_163 : decode cH_giveBlock 163 = .ok (.ifCond .ne 22, 3) := by decide +kernel
theorem ddH_giveBlock_166 : decode cH_giveBlock 166 = .ok (.aload_n 0, 1) := by decide +kernel
theorem ddH_giveBlock_167 : decode cH_giveBlock 167 = .ok (.getfield 26, 3) := by decide +kernel
theorem ddH_giveBlock_170 : decode cH_giveBlock 170 = .ok (.getfield 95, 3) := by decide +kernel
theorem ddH_giveBlock_173 : decode cH_giveBlock 173 = .ok (.iload 4, 2) := by decide +kernel
theorem ddH_giveBlock_175 : decode cH_giveBlock 175 = .ok (.iaload, 1) := by decide +kernel
theorem ddH_giveBlock_176 : decode cH_giveBlock 176 = .ok (.iconst 1, 1) := by decide +kernel
theorem ddH_giveBlock_177 : decode cH_giveBlock 177 = .ok (.if_icmp .le 8, 3) := by decide +kernel
theorem ddH_giveBlock_180 : decode cH_giveBlock 180 = .ok (.aload_n 0, 1) := by decide +kernel
theorem ddH_giveBlock_181 : decode cH_giveBlock 181 = .ok (.iload_n 3, 1) := by decide +kernel
theorem ddH_giveBlock_182 : decode cH_giveBlock 182 = .ok (.invokevirtual 196, 3) := by decide +kernel
theorem ddH_giveBlock_185 : decode cH_giveBlock 185 = .ok (.iconst 0, 1) := by decide +kernel
theorem ddH_giveBlock_186 : decode cH_giveBlock 186 = .ok (.ireturn, 1) := by decide +kernel
set_option maxHeartbeats 2000000 in
theorem zBH_giveBlock_185 {G : GXM} {X : CxM} (hG : GokM G) (C : CoM G X cH_giveBlock "HomeFreed$Heap") (N : mLM X = 6) {d : Nat} (hD : dpM X = d) (hd : 2 ≤ d)  {q : Int32 × Mem} (E : EnM G X (some .int) (some (.int q.1)) q.2 0 0) {M : Mem} (h : BH_giveBlock_185 M = some q) : ZM G X 185 [] [] M 0 0 := by
  unfold BH_giveBlock_185 at h
  refine zz_iconst (v := 0) C ddH_giveBlock_185 (by decide) ?_
  obtain rfl := Option.some.inj h
  exact zz_iret C E ddH_giveBlock_186
set_option maxHeartbeats 2000000 in
theorem zBH_giveBlock_158 {G : GXM} {X : CxM} (hG : GokM G) (C : CoM G X cH_giveBlock "HomeFreed$Heap") (N : mLM X = 6) {d : Nat} (hD : dpM X = d) (hd : 2 ≤ d)  {q : Int32 × Mem} (E : EnM G X (some .int) (some (.int q.1)) q.2 0 0) {v0 : Nat} {v3 : Int32} {v4 : Int32} {M : Mem} (h : BH_giveBlock_158 v0 v3 v4 M = some q) : ZM G X 158 [(0, .ref v0), (3, .int v3), (4, .int v4)] [] M 0 0 := by
  unfold BH_giveBlock_158 at h
  refine zz_aload_n C 0 ddH_giveBlock_158 rfl rfl ?_
  refine zz_iload_n C 1 ddH_giveBlock_159 rfl rfl ?_
  obtain ⟨h2, h⟩ := gdN h
  obtain ⟨q1, hq1, h⟩ := bindN h
  refine zz_callV0 (As := [.int v3]) C ddH_giveBlock_160 wd_670 my_H_usedOf mv_H_usedOf ⟨_, rfl, rfl⟩ (xH_usedOf hG (d - 1) (by omega) hq1) (by omega) h2 rfl rfl (Nat.le_of_ble_eq_true rfl) ?_
  refine zz_if_ne (tgt := 185) C ddH_giveBlock_163 rfl (fun hc => ?_) (fun hc => ?_)
  · replace h := iteF h hc
    refine zz_loc (L1 := []) [] rfl ?_
    exact zBH_giveBlock_185 hG C N hD hd E h
  · replace h := iteT h hc
    refine zz_aload_n C 0 ddH_giveBlock_166 rfl rfl ?_
    obtain ⟨h3, h⟩ := gdN h
    obtain ⟨h4, h⟩ := gdN h
    refine zz_getr C ddH_giveBlock_167 fl_H_26 rfl h3 (of_decide_eq_true h4) ?_
    obtain ⟨h5, h⟩ := gdN h
    obtain ⟨h6, h⟩ := gdN h
    refine zz_getr C ddH_giveBlock_170 fl_H_95 rfl h5 (of_decide_eq_true h6) ?_
    refine zz_iload C 2 ddH_giveBlock_173 rfl ?_
    obtain ⟨h7, h⟩ := gdN h
    refine zz_iaload C ddH_giveBlock_175 h7 ?_
    refine zz_iconst (v := 1) C ddH_giveBlock_176 (by decide) ?_
    refine zz_icmp_le (tgt := 185) C ddH_giveBlock_177 rfl (fun hc => ?_) (fun hc => ?_)
    · replace h := iteT h hc
      refine zz_loc (L1 := []) [] rfl ?_
      exact zBH_giveBlock_185 hG C N hD hd E h
    · replace h := iteF h hc
      refine zz_aload_n C 0 ddH_giveBlock_180 rfl rfl ?_
      refine zz_iload_n C 1 ddH_giveBlock_181 rfl rfl ?_
      obtain ⟨q8, hq8, h⟩ := bindN h
      refine zz_callV0 (As := [.int v3]) C ddH_giveBlock_182 wd_766 my_H_makeEmpty mv_H_makeEmpty ⟨_, rfl, rfl⟩ (xH_makeEmpty hG (d - 1) (by omega) hq8) (by omega) h3 rfl rfl (Nat.le_of_ble_eq_true rfl) ?_
      refine zz_loc (L1 := []) [] rfl ?_
      exact zBH_giveBlock_185 hG C N hD hd E h
set_option maxHeartbeats 2000000 in
theorem zBH_giveBlock_103 {G : GXM} {X : CxM} (hG : GokM G) (C : CoM G X cH_giveBlock "HomeFreed$Heap") (N : mLM X = 6) {d : Nat} (hD : dpM X = d) (hd : 2 ≤ d)  {q : Int32 × Mem} (E : EnM G X (some .int) (some (.int q.1)) q.2 0 0) {w0 : Int32} {M : Mem} (h : BH_giveBlock_103 w0 M = some q) : ZM G X 103 [] [.int w0] M 0 0 := by
  unfold BH_giveBlock_103 at h
  obtain rfl := Option.some.inj h
  exact zz_iret C E ddH_giveBlock_103
set_option maxHeartbeats 2000000 in
theorem zBH_giveBlock_102 {G : GXM} {X : CxM} (hG : GokM G) (C : CoM G X cH_giveBlock "HomeFreed$Heap") (N : mLM X = 6) {d : Nat} (hD : dpM X = d) (hd : 2 ≤ d)  {q : Int32 × Mem} (E : EnM G X (some .int) (some (.int q.1)) q.2 0 0) {M : Mem} (h : BH_giveBlock_102 M = some q) : ZM G X 102 [] [] M 0 0 := by
  unfold BH_giveBlock_102 at h
  refine zz_iconst (v := 1) C ddH_giveBlock_102 (by decide) ?_
  exact zBH_giveBlock_103 hG C N hD hd E h
set_option maxHeartbeats 2000000 in
theorem zBH_giveBlock_82 {G : GXM} {X : CxM} (hG : GokM G) (C : CoM G X cH_giveBlock "HomeFreed$Heap") (N : mLM X = 6) {d : Nat} (hD : dpM X = d) (hd : 2 ≤ d)  {q : Int32 × Mem} (E : EnM G X (some .int) (some (.int q.1)) q.2 0 0) {v0 : Nat} {v1 : Int32} {v3 : Int32} {w0 : Int32} {M : Mem} (h : BH_giveBlock_82 v0 v1 v3 w0 M = some q) : ZM G X 82 [(0, .ref v0), (1, .int v1), (3, .int v3)] [.int w0] M 0 0 := by
  unfold BH_giveBlock_82 at h
  refine zz_istore (L1 := [(5, .int w0), (0, .ref v0), (1, .int v1), (3, .int v3)]) C ddH_giveBlock_82 N (by decide) rfl ?_
  refine zz_iload C 0 ddH_giveBlock_84 rfl ?_
  refine zz_if_eq (tgt := 102) C ddH_giveBlock_86 rfl (fun hc => ?_) (fun hc => ?_)
  · replace h := iteT h hc
    refine zz_loc (L1 := []) [] rfl ?_
    exact zBH_giveBlock_102 hG C N hD hd E h
  · replace h := iteF h hc
    refine zz_aload_n C 1 ddH_giveBlock_89 rfl rfl ?_
    refine zz_iload_n C 2 ddH_giveBlock_90 rfl rfl ?_
    refine zz_iload_n C 3 ddH_giveBlock_91 rfl rfl ?_
    obtain ⟨h2, h⟩ := gdN h
    obtain ⟨q1, hq1, h⟩ := bindN h
    refine zz_callV0 (As := [.int v1, .int v3]) C ddH_giveBlock_92 wd_754 my_H_goHome mv_H_goHome ⟨_, rfl, rfl⟩ (xH_goHome hG (d - 1) (by omega) hq1) (by omega) h2 rfl rfl (Nat.le_of_ble_eq_true rfl) ?_
    refine zz_if_le (tgt := 102) C ddH_giveBlock_95 rfl (fun hc => ?_) (fun hc => ?_)
    · replace h := iteT h hc
      refine zz_loc (L1 := []) [] rfl ?_
      exact zBH_giveBlock_102 hG C N hD hd E h
    · replace h := iteF h hc
      refine zz_iconst (v := 2) C ddH_giveBlock_98 (by decide) ?_
      refine zz_goto (tgt := 103) C ddH_giveBlock_99 rfl ?_
      refine zz_loc (L1 := []) [] rfl ?_
      exact zBH_giveBlock_103 hG C N hD hd E h
set_option maxHeartbeats 2000000 in
theorem zBH_giveBlock_16 {G : GXM} {X : CxM} (hG : GokM G) (C : CoM G X cH_giveBlock "HomeFreed$Heap") (N : mLM X = 6) {d : Nat} (hD : dpM X = d) (hd : 2 ≤ d)  {q : Int32 × Mem} (E : EnM G X (some .int) (some (.int q.1)) q.2 0 0) {M : Mem} (h : BH_giveBlock_16 M = some q) : ZM G X 16 [] [] M 0 0 := by
  unfold BH_giveBlock_16 at h
  refine zz_iconst (v := (-1)) C ddH_giveBlock_16 (by decide) ?_
  obtain rfl := Option.some.inj h
  exact zz_iret C E ddH_giveBlock_17
set_option maxHeartbeats 2000000 in
theorem xH_giveBlock {G : GXM} {l : Launch} (hG : GokM G) (d : Nat) (hd : 2 ≤ d) {v0 : Nat} {v1 : Int32} {v2 : Int32} {M : Mem} {q : Int32 × Mem} (h : fH_giveBlock v0 v1 v2 M = some q) : ExM G l d 0 0 yH_giveBlock cH_giveBlock 6 (some .int) [.ref v0, .int v1, .int v2] M (some (.int q.1)) q.2 := by
  refine ex_of hG (by decide +kernel) (Nat.le_of_ble_eq_true rfl) ?_
  intro X hl C E N hD hn
  show ZM G X 0 [(0, .ref v0), (1, .int v1), (2, .int v2)] [] M 0 0
  unfold fH_giveBlock at h
  refine zz_aload_n C 0 ddH_giveBlock_0 rfl rfl ?_
  refine zz_iload_n C 1 ddH_giveBlock_1 rfl rfl ?_
  obtain ⟨h2, h⟩ := gdN h
  obtain ⟨q1, hq1, h⟩ := bindN h
  refine zz_callV0 (As := [.int v1]) C ddH_giveBlock_2 wd_698 my_H_isLiving mv_H_isLiving ⟨_, rfl, rfl⟩ (xH_isLiving hG (d - 1) (by omega) hq1) (by omega) h2 rfl rfl (Nat.le_of_ble_eq_true rfl) ?_
  refine zz_if_eq (tgt := 16) C ddH_giveBlock_5 rfl (fun hc => ?_) (fun hc => ?_)
  · replace h := iteT h hc
    refine zz_loc (L1 := []) [] rfl ?_
    exact zBH_giveBlock_16 hG C N hD hd E h
  · replace h := iteF h hc
    refine zz_aload_n C 0 ddH_giveBlock_8 rfl rfl ?_
    refine zz_iload_n C 2 ddH_giveBlock_9 rfl rfl ?_
    obtain ⟨h4, h⟩ := gdN h
    obtain ⟨q3, hq3, h⟩ := bindN h
    refine zz_callV0 (As := [.int v2]) C ddH_giveBlock_10 wd_782 my_H_isHeld mv_H_isHeld ⟨_, rfl, rfl⟩ (xH_isHeld hG (d - 1) (by omega) hq3) (by omega) h4 rfl rfl (Nat.le_of_ble_eq_true rfl) ?_
    refine zz_if_ne (tgt := 18) C ddH_giveBlock_13 rfl (fun hc => ?_) (fun hc => ?_)
    · replace h := iteF h hc
      refine zz_iload_n C 2 ddH_giveBlock_18 rfl rfl ?_
      refine zz_bipush (v := 100) C ddH_giveBlock_19 (by decide) ?_
      refine zz_idiv C ddH_giveBlock_21 (by decide) ?_
      refine zz_istore_n (L1 := [(3, .int (v2 / 100)), (0, .ref v0), (1, .int v1), (2, .int v2)]) C ddH_giveBlock_22 rfl N (by decide) rfl ?_
      refine zz_aload_n C 1 ddH_giveBlock_23 rfl rfl ?_
      obtain ⟨h5, h⟩ := gdN h
      obtain ⟨h6, h⟩ := gdN h
      refine zz_getr C ddH_giveBlock_24 fl_H_15 rfl h5 (of_decide_eq_true h6) ?_
      refine zz_iload_n C 0 ddH_giveBlock_27 rfl rfl ?_
      obtain ⟨h7, h⟩ := gdN h
      refine zz_iaload C ddH_giveBlock_28 h7 ?_
      refine zz_iload_n C 2 ddH_giveBlock_29 rfl rfl ?_
      refine zz_icmp_eq (tgt := 104) C ddH_giveBlock_30 rfl (fun hc => ?_) (fun hc => ?_)
      · replace h := iteT h hc
        refine zz_aload_n C 1 ddH_giveBlock_104 rfl rfl ?_
        obtain ⟨h8, h⟩ := gdN h
        refine zz_getr C ddH_giveBlock_105 fl_H_30 rfl h5 (of_decide_eq_true h8) ?_
        refine zz_aload_n C 1 ddH_giveBlock_108 rfl rfl ?_
        refine zz_iload_n C 0 ddH_giveBlock_109 rfl rfl ?_
        refine zz_iconst (v := 1) C ddH_giveBlock_110 (by decide) ?_
        obtain ⟨q9, hq9, h⟩ := bindN h
        refine zz_callV0 (As := [.int (v2 / 100), .int 1]) C ddH_giveBlock_111 wd_725 my_H_listOf mv_H_listOf ⟨_, rfl, rfl⟩ (xH_listOf hG (d - 1) (by omega) hq9) (by omega) h5 rfl rfl (Nat.le_of_ble_eq_true rfl) ?_
        refine zz_aload_n C 1 ddH_giveBlock_114 rfl rfl ?_
        refine zz_iload_n C 3 ddH_giveBlock_115 rfl rfl ?_
        obtain ⟨h11, h⟩ := gdN h
        obtain ⟨q10, hq10, h⟩ := bindN h
        refine zz_callV0 (As := [.int v2]) C ddH_giveBlock_116 wd_649 my_H_thingOf mv_H_thingOf ⟨_, rfl, rfl⟩ (xH_thingOf hG (d - 1) (by omega) hq10) (by omega) h11 rfl rfl (Nat.le_of_ble_eq_true rfl) ?_
        obtain ⟨h13, h⟩ := gdN h
        obtain ⟨q12, hq12, h⟩ := bindN h
        refine zz_callV0 (As := [.int q9.1, .int q10.1]) C ddH_giveBlock_119 wd_726 my_C_push mv_C_push ⟨_, rfl, rfl⟩ (xC_push hG (d - 1) (by omega) hq12) (by omega) h13 rfl rfl (Nat.le_of_ble_eq_true rfl) ?_
        refine zz_aload_n C 1 ddH_giveBlock_122 rfl rfl ?_
        refine zz_iload_n C 2 ddH_giveBlock_123 rfl rfl ?_
        refine zz_aload_n C 1 ddH_giveBlock_124 rfl rfl ?_
        obtain ⟨h14, h⟩ := gdN h
        obtain ⟨h15, h⟩ := gdN h
        refine zz_getr C ddH_giveBlock_125 fl_H_9 rfl h14 (of_decide_eq_true h15) ?_
        refine zz_iload_n C 0 ddH_giveBlock_128 rfl rfl ?_
        obtain ⟨h16, h⟩ := gdN h
        refine zz_iaload C ddH_giveBlock_129 h16 ?_
        obtain ⟨q17, hq17, h⟩ := bindN h
        refine zz_callV0 (As := [.int v1, .int (giM q12 (grM q12 v0 1) (Int32.toNatClampNeg (v2 / 100)))]) C ddH_giveBlock_130 wd_669 my_H_queueOf mv_H_queueOf ⟨_, rfl, rfl⟩ (xH_queueOf hG (d - 1) (by omega) hq17) (by omega) h14 rfl rfl (Nat.le_of_ble_eq_true rfl) ?_
        refine zz_istore (L1 := [(4, .int q17.1), (3, .int (v2 / 100)), (0, .ref v0), (1, .int v1), (2, .int v2)]) C ddH_giveBlock_133 N (by decide) rfl ?_
        refine zz_aload_n C 2 ddH_giveBlock_135 rfl rfl ?_
        obtain ⟨h18, h⟩ := gdN h
        obtain ⟨h19, h⟩ := gdN h
        refine zz_getr C ddH_giveBlock_136 fl_H_26 rfl h18 (of_decide_eq_true h19) ?_
        obtain ⟨h20, h⟩ := gdN h
        obtain ⟨h21, h⟩ := gdN h
        refine zz_getr C ddH_giveBlock_139 fl_H_88 rfl h20 (of_decide_eq_true h21) ?_
        refine zz_iload_n C 1 ddH_giveBlock_142 rfl rfl ?_
        obtain ⟨h22, h⟩ := gdN h
        refine zz_iaload C ddH_giveBlock_143 h22 ?_
        refine zz_iconst (v := (-1)) C ddH_giveBlock_144 (by decide) ?_
        refine zz_icmp_ne (tgt := 158) C ddH_giveBlock_145 rfl (fun hc => ?_) (fun hc => ?_)
        · replace h := iteF h hc
          refine zz_loc (L1 := [(0, .ref v0), (3, .int (v2 / 100)), (4, .int q17.1)]) [2, 1, 0] rfl ?_
          exact zBH_giveBlock_158 hG C N hD hd E h
        · replace h := iteT h hc
          refine zz_aload_n C 2 ddH_giveBlock_148 rfl rfl ?_
          refine zz_getr C ddH_giveBlock_149 fl_H_26 rfl h18 (of_decide_eq_true h19) ?_
          refine zz_iload C 0 ddH_giveBlock_152 rfl ?_
          refine zz_iload_n C 1 ddH_giveBlock_154 rfl rfl ?_
          obtain ⟨q23, hq23, h⟩ := bindN h
          refine zz_callV0 (As := [.int q17.1, .int (v2 / 100)]) C ddH_giveBlock_155 wd_730 my_C_append mv_C_append ⟨_, rfl, rfl⟩ (xC_append hG (d - 1) (by omega) hq23) (by omega) h20 rfl rfl (Nat.le_of_ble_eq_true rfl) ?_
          refine zz_loc (L1 := [(0, .ref v0), (3, .int (v2 / 100)), (4, .int q17.1)]) [2, 1, 0] rfl ?_
          exact zBH_giveBlock_158 hG C N hD hd E h
      · replace h := iteF h hc
        refine zz_aload_n C 1 ddH_giveBlock_33 rfl rfl ?_
        refine zz_iload_n C 2 ddH_giveBlock_34 rfl rfl ?_
        refine zz_iload_n C 0 ddH_giveBlock_35 rfl rfl ?_
        obtain ⟨q24, hq24, h⟩ := bindN h
        refine zz_callV0 (As := [.int v1, .int (v2 / 100)]) C ddH_giveBlock_36 wd_619 my_H_outboxOf mv_H_outboxOf ⟨_, rfl, rfl⟩ (xH_outboxOf hG (d - 1) (by omega) hq24) (by omega) h5 rfl rfl (Nat.le_of_ble_eq_true rfl) ?_
        refine zz_istore (L1 := [(4, .int q24.1), (3, .int (v2 / 100)), (0, .ref v0), (1, .int v1), (2, .int v2)]) C ddH_giveBlock_39 N (by decide) rfl ?_
        refine zz_aload_n C 2 ddH_giveBlock_41 rfl rfl ?_
        obtain ⟨h25, h⟩ := gdN h
        obtain ⟨h26, h⟩ := gdN h
        refine zz_getr C ddH_giveBlock_42 fl_H_30 rfl h25 (of_decide_eq_true h26) ?_
        refine zz_iload C 0 ddH_giveBlock_45 rfl ?_
        refine zz_aload_n C 2 ddH_giveBlock_47 rfl rfl ?_
        refine zz_iload_n C 4 ddH_giveBlock_48 rfl rfl ?_
        obtain ⟨q27, hq27, h⟩ := bindN h
        refine zz_callV0 (As := [.int v2]) C ddH_giveBlock_49 wd_649 my_H_thingOf mv_H_thingOf ⟨_, rfl, rfl⟩ (xH_thingOf hG (d - 1) (by omega) hq27) (by omega) h25 rfl rfl (Nat.le_of_ble_eq_true rfl) ?_
        obtain ⟨h29, h⟩ := gdN h
        obtain ⟨q28, hq28, h⟩ := bindN h
        refine zz_callV0 (As := [.int q24.1, .int q27.1]) C ddH_giveBlock_52 wd_726 my_C_push mv_C_push ⟨_, rfl, rfl⟩ (xC_push hG (d - 1) (by omega) hq28) (by omega) h29 rfl rfl (Nat.le_of_ble_eq_true rfl) ?_
        refine zz_aload_n C 2 ddH_giveBlock_55 rfl rfl ?_
        obtain ⟨h30, h⟩ := gdN h
        obtain ⟨h31, h⟩ := gdN h
        refine zz_getr C ddH_giveBlock_56 fl_H_30 rfl h30 (of_decide_eq_true h31) ?_
        obtain ⟨h32, h⟩ := gdN h
        obtain ⟨h33, h⟩ := gdN h
        refine zz_getr C ddH_giveBlock_59 fl_H_95 rfl h32 (of_decide_eq_true h33) ?_
        refine zz_iload C 0 ddH_giveBlock_62 rfl ?_
        obtain ⟨h34, h⟩ := gdN h
        refine zz_iaload C ddH_giveBlock_64 h34 ?_
        refine zz_aload_n C 2 ddH_giveBlock_65 rfl rfl ?_
        obtain ⟨h35, h⟩ := gdN h
        refine zz_getr C ddH_giveBlock_66 fl_H_46 rfl h30 (of_decide_eq_true h35) ?_
        obtain ⟨h36, h⟩ := gdN h
        obtain ⟨h37, h⟩ := gdN h
        refine zz_getr C ddH_giveBlock_69 fl_H_76 rfl h36 (of_decide_eq_true h37) ?_
        refine zz_iconst (v := 3) C ddH_giveBlock_72 (by decide) ?_
        obtain ⟨h38, h⟩ := gdN h
        refine zz_iaload C ddH_giveBlock_73 h38 ?_
        refine zz_icmp_lt (tgt := 81) C ddH_giveBlock_74 rfl (fun hc => ?_) (fun hc => ?_)
        · replace h := iteT h hc
          refine zz_iconst (v := 0) C ddH_giveBlock_81 (by decide) ?_
          refine zz_loc (L1 := [(0, .ref v0), (1, .int v1), (3, .int (v2 / 100))]) [2, 3, 1] rfl ?_
          exact zBH_giveBlock_82 hG C N hD hd E h
        · replace h := iteF h hc
          refine zz_iconst (v := 1) C ddH_giveBlock_77 (by decide) ?_
          refine zz_goto (tgt := 82) C ddH_giveBlock_78 rfl ?_
          refine zz_loc (L1 := [(0, .ref v0), (1, .int v1), (3, .int (v2 / 100))]) [2, 3, 1] rfl ?_
          exact zBH_giveBlock_82 hG C N hD hd E h
    · replace h := iteT h hc
      refine zz_loc (L1 := []) [] rfl ?_
      exact zBH_giveBlock_16 hG C N hD hd E h
