theorem ddM_putAside_0 : decode cM_putAside 0 = .ok (.iconst 0, 1) := by decide +kernel
theorem ddM_putAside_1 : decode cM_putAside 1 = .ok (.istore_n 2, 1) := by decide +kernel
theorem ddM_putAside_2 : decode cM_putAside 2 = .ok (.iload_n 2, 1) := by decide +kernel
theorem ddM_putAside_3 : decode cM_putAside 3 = .ok (.sipush 3712, 3) := by decide +kernel
theorem ddM_putAside_6 : decode cM_putAside 6 = .ok (.if_icmp .ge 27, 3) := by decide +kernel
theorem ddM_putAside_9 : decode cM_putAside 9 = .ok (.aload_n 0, 1) := by decide +kernel
theorem ddM_putAside_10 : decode cM_putAside 10 = .ok (.getfield 58, 3) := by decide +kernel
theorem ddM_putAside_13 : decode cM_putAside 13 = .ok (.sipush 3712, 3) := by decide +kernel
theorem ddM_putAside_16 : decode cM_putAside 16 = .ok (.iload_n 1, 1) := by decide +kernel
theorem ddM_putAside_17 : decode cM_putAside 17 = .ok (.imul, 1) := by decide +kernel
theorem ddM_putAside_18 : decode cM_putAside 18 = .ok (.iload_n 2, 1) := by decide +kernel
theorem ddM_putAside_19 : decode cM_putAside 19 = .ok (.iadd, 1) := by decide +kernel
theorem ddM_putAside_20 : decode cM_putAside 20 = .ok (.aload_n 0, 1) := by decide +kernel
theorem ddM_putAside_21 : decode cM_putAside 21 = .ok (.getfield 31, 3) := by decide +kernel
theorem ddM_putAside_24 : decode cM_putAside 24 = .ok (.iload_n 2, 1) := by decide +kernel
theorem ddM_putAside_25 : decode cM_putAside 25 = .ok (.iaload, 1) := by decide +kernel
theorem ddM_putAside_26 : decode cM_putAside 26 = .ok (.iastore, 1) := by decide +kernel
theorem ddM_putAside_27 : decode cM_putAside 27 = .ok (.iinc 2 1, 3) := by decide +kernel
theorem ddM_putAside_30 : decode cM_putAside 30 = .ok (.goto (-28), 3) := by decide +kernel
theorem ddM_putAside_33 : decode cM_putAside 33 = .ok (.return_, 1) := by decide +kernel
set_option maxHeartbeats 2000000 in
theorem zBM_putAside_2 {G : GXM} {X : CxM} (hG : GokM G) (C : CoM G X cM_putAside "HomeFreedModel") (N : mLM X = 3) {d : Nat} (hD : dpM X = d) (hd : 0 ≤ d) {v0 : Nat} {v1 : Int32} {K : Nat → Int32 → Int32 → Mem → Option ((Mem))} {q : (Mem)} (hK : ∀ (v2 : Int32) (M : Mem), K v0 v1 v2 M = some q → ZM G X 2 [(0, .ref v0), (1, .int v1), (2, .int v2)] [] M 0 0) (hr : ∀ r : Mem, q =  r → EnM G X none none r 0 0) {v2 : Int32} {M : Mem} (h : BM_putAside_2 K v0 v1 v2 M = some q) : ZM G X 2 [(0, .ref v0), (1, .int v1), (2, .int v2)] [] M 0 0 := by
  unfold BM_putAside_2 at h
  refine zz_iload_n C 2 ddM_putAside_2 rfl rfl ?_
  refine zz_sipush (v := 3712) C ddM_putAside_3 (by decide) ?_
  refine zz_icmp_ge (tgt := 33) C ddM_putAside_6 rfl (fun hc => ?_) (fun hc => ?_)
  · replace h := iteT h hc
    exact zz_vret C (hr _ (Option.some.inj h).symm) ddM_putAside_33
  · replace h := iteF h hc
    refine zz_aload_n C 0 ddM_putAside_9 rfl rfl ?_
    obtain ⟨h1, h⟩ := gdN h
    obtain ⟨h2, h⟩ := gdN h
    refine zz_getr C ddM_putAside_10 fl_M_58 rfl h1 (of_decide_eq_true h2) ?_
    refine zz_sipush (v := 3712) C ddM_putAside_13 (by decide) ?_
    refine zz_iload_n C 1 ddM_putAside_16 rfl rfl ?_
    refine zz_imul C ddM_putAside_17 ?_
    refine zz_iload_n C 2 ddM_putAside_18 rfl rfl ?_
    refine zz_iadd C ddM_putAside_19 ?_
    refine zz_aload_n C 0 ddM_putAside_20 rfl rfl ?_
    obtain ⟨h3, h⟩ := gdN h
    refine zz_getr C ddM_putAside_21 fl_M_31 rfl h1 (of_decide_eq_true h3) ?_
    refine zz_iload_n C 2 ddM_putAside_24 rfl rfl ?_
    obtain ⟨h4, h⟩ := gdN h
    refine zz_iaload C ddM_putAside_25 h4 ?_
    obtain ⟨h5, h⟩ := gdN h
    refine zz_iastore C ddM_putAside_26 h5 ?_
    refine zz_iinc (v := v2 + 1) (L1 := [(2, .int (v2 + 1)), (0, .ref v0), (1, .int v1)]) C 2 ddM_putAside_27 rfl rfl N (by decide) rfl ?_
    refine zz_goto (tgt := 2) C ddM_putAside_30 rfl ?_
    refine zz_loc (L1 := [(0, .ref v0), (1, .int v1), (2, .int (v2 + 1))]) [1, 2, 0] rfl ?_
    exact hK _ _ h
set_option maxHeartbeats 2000000 in
theorem zLM_putAside_2 {G : GXM} {X : CxM} (hG : GokM G) (C : CoM G X cM_putAside "HomeFreedModel") (N : mLM X = 3) {d : Nat} (hD : dpM X = d) (hd : 0 ≤ d) {v0 : Nat} {v1 : Int32} {q : (Mem)} : ∀ (f : Nat) (v2 : Int32) (M : Mem), LM_putAside_2 f v0 v1 v2 M = some q → (hr : ∀ r : Mem, q =  r → EnM G X none none r 0 0) → ZM G X 2 [(0, .ref v0), (1, .int v1), (2, .int v2)] [] M 0 0 := by
  intro f
  induction f with
  | zero => intro v2 M h; cases h
  | succ f ih =>
    intro v2 M h hr
    exact zBM_putAside_2 hG C N hD hd (K := LM_putAside_2 f) (q := q) (fun v2 M h => ih v2 M h hr) hr h
set_option maxHeartbeats 2000000 in
theorem xM_putAside {G : GXM} {l : Launch} (hG : GokM G) (d : Nat) (hd : 0 ≤ d) {v0 : Nat} {v1 : Int32} {M : Mem} {q : Mem} (h : fM_putAside v0 v1 M = some q) : ExM G l d 0 0 yM_putAside cM_putAside 3 none [.ref v0, .int v1] M none q := by
  refine ex_of hG (by decide +kernel) (Nat.le_of_ble_eq_true rfl) ?_
  intro X hl C E N hD hn
  show ZM G X 0 [(0, .ref v0), (1, .int v1)] [] M 0 0
  unfold fM_putAside at h
  refine zz_iconst (v := 0) C ddM_putAside_0 (by decide) ?_
  refine zz_istore_n (L1 := [(2, .int 0), (0, .ref v0), (1, .int v1)]) C ddM_putAside_1 rfl N (by decide) rfl ?_
  refine zz_loc (L1 := [(0, .ref v0), (1, .int v1), (2, .int 0)]) [1, 2, 0] rfl ?_
  obtain ⟨q1, hq1, h⟩ := bindN h
  refine zLM_putAside_2 hG C N hD hd 1000000 _ _ hq1 ?_
  · intro r2 eq1; replace eq1 := eq1.symm; subst eq1
    obtain rfl := Option.some.inj h
    exact E
theorem ddM_takeBack_0 : decode cM_takeBack 0 = .ok (.iconst 0, 1) := by decide +kernel
theorem ddM_takeBack_1 : decode cM_takeBack 1 = .ok (.istore_n 2, 1) := by decide +kernel
theorem ddM_takeBack_2 : decode cM_takeBack 2 = .ok (.iload_n 2, 1) := by decide +kernel
theorem ddM_takeBack_3 : decode cM_takeBack 3 = .ok (.sipush 3712, 3) := by decide +kernel
theorem ddM_takeBack_6 : decode cM_takeBack 6 = .ok (.if_icmp .ge 27, 3) := by decide +kernel
theorem ddM_takeBack_9 : decode cM_takeBack 9 = .ok (.aload_n 0, 1) := by decide +kernel
theorem ddM_takeBack_10 : decode cM_takeBack 10 = .ok (.getfield 31, 3) := by decide +kernel
theorem ddM_takeBack_13 : decode cM_takeBack 13 = .ok (.iload_n 2, 1) := by decide +kernel
theorem ddM_takeBack_14 : decode cM_takeBack 14 = .ok (.aload_n 0, 1) := by decide +kernel
theorem ddM_takeBack_15 : decode cM_takeBack 15 = .ok (.getfield 58, 3) := by decide +kernel
theorem ddM_takeBack_18 : decode cM_takeBack 18 = .ok (.sipush 3712, 3) := by decide +kernel
theorem ddM_takeBack_21 : decode cM_takeBack 21 = .ok (.iload_n 1, 1) := by decide +kernel
theorem ddM_takeBack_22 : decode cM_takeBack 22 = .ok (.imul, 1) := by decide +kernel
theorem ddM_takeBack_23 : decode cM_takeBack 23 = .ok (.iload_n 2, 1) := by decide +kernel
theorem ddM_takeBack_24 : decode cM_takeBack 24 = .ok (.iadd, 1) := by decide +kernel
theorem ddM_takeBack_25 : decode cM_takeBack 25 = .ok (.iaload, 1) := by decide +kernel
theorem ddM_takeBack_26 : decode cM_takeBack 26 = .ok (.iastore, 1) := by decide +kernel
theorem ddM_takeBack_27 : decode cM_takeBack 27 = .ok (.iinc 2 1, 3) := by decide +kernel
theorem ddM_takeBack_30 : decode cM_takeBack 30 = .ok (.goto (-28), 3) := by decide +kernel
theorem ddM_takeBack_33 : decode cM_takeBack 33 = .ok (.return_, 1) := by decide +kernel
set_option maxHeartbeats 2000000 in
theorem zBM_takeBack_2 {G : GXM} {X : CxM} (hG : GokM G) (C : CoM G X cM_takeBack "HomeFreedModel") (N : mLM X = 3) {d : Nat} (hD : dpM X = d) (hd : 0 ≤ d) {v0 : Nat} {v1 : Int32} {K : Nat → Int32 → Int32 → Mem → Option ((Mem))} {q : (Mem)} (hK : ∀ (v2 : Int32) (M : Mem), K v0 v1 v2 M = some q → ZM G X 2 [(0, .ref v0), (1, .int v1), (2, .int v2)] [] M 0 0) (hr : ∀ r : Mem, q =  r → EnM G X none none r 0 0) {v2 : Int32} {M : Mem} (h : BM_takeBack_2 K v0 v1 v2 M = some q) : ZM G X 2 [(0, .ref v0), (1, .int v1), (2, .int v2)] [] M 0 0 := by
  unfold BM_takeBack_2 at h
  refine zz_iload_n C 2 ddM_takeBack_2 rfl rfl ?_
  refine zz_sipush (v := 3712) C ddM_takeBack_3 (by decide) ?_
  refine zz_icmp_ge (tgt := 33) C ddM_takeBack_6 rfl (fun hc => ?_) (fun hc => ?_)
  · replace h := iteT h hc
    exact zz_vret C (hr _ (Option.some.inj h).symm) ddM_takeBack_33
  · replace h := iteF h hc
    refine zz_aload_n C 0 ddM_takeBack_9 rfl rfl ?_
    obtain ⟨h1, h⟩ := gdN h
    obtain ⟨h2, h⟩ := gdN h
    refine zz_getr C ddM_takeBack_10 fl_M_31 rfl h1 (of_decide_eq_true h2) ?_
    refine zz_iload_n C 2 ddM_takeBack_13 rfl rfl ?_
    refine zz_aload_n C 0 ddM_takeBack_14 rfl rfl ?_
    obtain ⟨h3, h⟩ := gdN h
    refine zz_getr C ddM_takeBack_15 fl_M_58 rfl h1 (of_decide_eq_true h3) ?_
    refine zz_sipush (v := 3712) C ddM_takeBack_18 (by decide) ?_
    refine zz_iload_n C 1 ddM_takeBack_21 rfl rfl ?_
    refine zz_imul C ddM_takeBack_22 ?_
    refine zz_iload_n C 2 ddM_takeBack_23 rfl rfl ?_
    refine zz_iadd C ddM_takeBack_24 ?_
    obtain ⟨h4, h⟩ := gdN h
    refine zz_iaload C ddM_takeBack_25 h4 ?_
    obtain ⟨h5, h⟩ := gdN h
    refine zz_iastore C ddM_takeBack_26 h5 ?_
    refine zz_iinc (v := v2 + 1) (L1 := [(2, .int (v2 + 1)), (0, .ref v0), (1, .int v1)]) C 2 ddM_takeBack_27 rfl rfl N (by decide) rfl ?_
    refine zz_goto (tgt := 2) C ddM_takeBack_30 rfl ?_
    refine zz_loc (L1 := [(0, .ref v0), (1, .int v1), (2, .int (v2 + 1))]) [1, 2, 0] rfl ?_
    exact hK _ _ h
set_option maxHeartbeats 2000000 in
theorem zLM_takeBack_2 {G : GXM} {X : CxM} (hG : GokM G) (C : CoM G X cM_takeBack "HomeFreedModel") (N : mLM X = 3) {d : Nat} (hD : dpM X = d) (hd : 0 ≤ d) {v0 : Nat} {v1 : Int32} {q : (Mem)} : ∀ (f : Nat) (v2 : Int32) (M : Mem), LM_takeBack_2 f v0 v1 v2 M = some q → (hr : ∀ r : Mem, q =  r → EnM G X none none r 0 0) → ZM G X 2 [(0, .ref v0), (1, .int v1), (2, .int v2)] [] M 0 0 := by
  intro f
  induction f with
  | zero => intro v2 M h; cases h
  | succ f ih =>
    intro v2 M h hr
    exact zBM_takeBack_2 hG C N hD hd (K := LM_takeBack_2 f) (q := q) (fun v2 M h => ih v2 M h hr) hr h
set_option maxHeartbeats 2000000 in
theorem xM_takeBack {G : GXM} {l : Launch} (hG : GokM G) (d : Nat) (hd : 0 ≤ d) {v0 : Nat} {v1 : Int32} {M : Mem} {q : Mem} (h : fM_takeBack v0 v1 M = some q) : ExM G l d 0 0 yM_takeBack cM_takeBack 3 none [.ref v0, .int v1] M none q := by
  refine ex_of hG (by decide +kernel) (Nat.le_of_ble_eq_true rfl) ?_
  intro X hl C E N hD hn
  show ZM G X 0 [(0, .ref v0), (1, .int v1)] [] M 0 0
  unfold fM_takeBack at h
  refine zz_iconst (v := 0) C ddM_takeBack_0 (by decide) ?_
  refine zz_istore_n (L1 := [(2, .int 0), (0, .ref v0), (1, .int v1)]) C ddM_takeBack_1 rfl N (by decide) rfl ?_
  refine zz_loc (L1 := [(0, .ref v0), (1, .int v1), (2, .int 0)]) [1, 2, 0] rfl ?_
  obtain ⟨q1, hq1, h⟩ := bindN h
  refine zLM_takeBack_2 hG C N hD hd 1000000 _ _ hq1 ?_
  · intro r2 eq1; replace eq1 := eq1.symm; subst eq1
    obtain rfl := Option.some.inj h
    exact E
theorem ddM_would_0 : decode cM_would 0 = .ok (.aload_n 0, 1) := by decide +kernel
theorem ddM_would_1 : decode cM_would 1 = .ok (.iload_n 1, 1) := by decide +kernel
theorem ddM_would_2 : decode cM_would 2 = .ok (.invokevirtual 260, 3) := by decide +kernel
theorem ddM_would_5 : decode cM_would 5 = .ok (.ifCond .eq 11, 3) := by decide +kernel
theorem ddM_would_8 : decode cM_would 8 = .ok (.aload_n 0, 1) := by decide +kernel
theorem ddM_would_9 : decode cM_would 9 = .ok (.iload_n 2, 1) := by decide +kernel
theorem ddM_would_10 : decode cM_would 10 = .ok (.invokevirtual 312, 3) := by decide +kernel
theorem ddM_would_13 : decode cM_would 13 = .ok (.ifCond .ne 5, 3) := by decide +kernel
theorem ddM_would_16 : decode cM_would 16 = .ok (.iconst (-1), 1) := by decide +kernel
theorem ddM_would_17 : decode cM_would 17 = .ok (.ireturn, 1) := by decide +kernel
theorem ddM_would_18 : decode cM_would 18 = .ok (.aload_n 0, 1) := by decide +kernel
theorem ddM_would_19 : decode cM_would 19 = .ok (.iconst 0, 1) := by decide +kernel
theorem ddM_would_20 : decode cM_would 20 = .ok (.invokevirtual 351, 3) := by decide +kernel
theorem ddM_would_23 : decode cM_would 23 = .ok (.aload_n 0, 1) := by decide +kernel
theorem ddM_would_24 : decode cM_would 24 = .ok (.iload_n 1, 1) := by decide +kernel
theorem ddM_would_25 : decode cM_would 25 = .ok (.aload_n 0, 1) := by decide +kernel
theorem ddM_would_26 : decode cM_would 26 = .ok (.iload_n 2, 1) := by decide +kernel
theorem ddM_would_27 : decode cM_would 27 = .ok (.invokevirtual 263, 3) := by decide +kernel
theorem ddM_would_30 : decode cM_would 30 = .ok (.invokevirtual 275, 3) := by decide +kernel
theorem ddM_would_33 : decode cM_would 33 = .ok (.iconst (-1), 1) := by decide +kernel
theorem ddM_would_34 : decode cM_would 34 = .ok (.if_icmp .eq 7, 3) := by decide +kernel
theorem ddM_would_37 : decode cM_would 37 = .ok (.iconst 1, 1) := by decide +kernel
theorem ddM_would_38 : decode cM_would 38 = .ok (.goto 4, 3) := by decide +kernel
theorem ddM_would_41 : decode cM_would 41 = .ok (.iconst 0, 1) := by decide +kernel
theorem ddM_would_42 : decode cM_would 42 = .ok (.istore_n 3, 1) := by decide +kernel
theorem ddM_would_43 : decode cM_would 43 = .ok (.aload_n 0, 1) := by decide +kernel
theorem ddM_would_44 : decode cM_would 44 = .ok (.iconst 0, 1) := by decide +kernel
theorem ddM_would_45 : decode cM_would 45 = .ok (.invokevirtual 354, 3) := by decide +kernel
theorem ddM_would_48 : decode cM_would 48 = .ok (.iload_n 3, 1) := by decide +kernel
theorem ddM_would_49 : decode cM_would 49 = .ok (.ifCond .eq 10, 3) := by decide +kernel
theorem ddM_would_52 : decode cM_would 52 = .ok (.aload_n 0, 1) := by decide +kernel
theorem ddM_would_53 : decode cM_would 53 = .ok (.getfield 217, 3) := by decide +kernel
theorem ddM_would_56 : decode cM_would 56 = .ok (.goto 4, 3) := by decide +kernel
theorem ddM_would_59 : decode cM_would 59 = .ok (.iconst (-1), 1) := by decide +kernel
theorem ddM_would_60 : decode cM_would 60 = .ok (.ireturn, 1) := by decide +kernel
set_option maxHeartbeats 2000000 in
theorem zBM_would_60 {G : GXM} {X : CxM} (hG : GokM G) (C : CoM G X cM_would "HomeFreedModel") (N : mLM X = 4) {d : Nat} (hD : dpM X = d) (hd : 8 ≤ d)  {q : Int32 × Mem} (E : EnM G X (some .int) (some (.int q.1)) q.2 0 0) {w0 : Int32} {M : Mem} (h : BM_would_60 w0 M = some q) : ZM G X 60 [] [.int w0] M 0 0 := by
  unfold BM_would_60 at h
  obtain rfl := Option.some.inj h
  exact zz_iret C E ddM_would_60
set_option maxHeartbeats 2000000 in
theorem zBM_would_42 {G : GXM} {X : CxM} (hG : GokM G) (C : CoM G X cM_would "HomeFreedModel") (N : mLM X = 4) {d : Nat} (hD : dpM X = d) (hd : 8 ≤ d)  {q : Int32 × Mem} (E : EnM G X (some .int) (some (.int q.1)) q.2 0 0) {v0 : Nat} {w0 : Int32} {M : Mem} (h : BM_would_42 v0 w0 M = some q) : ZM G X 42 [(0, .ref v0)] [.int w0] M 0 0 := by
  unfold BM_would_42 at h
  refine zz_istore_n (L1 := [(3, .int w0), (0, .ref v0)]) C ddM_would_42 rfl N (by decide) rfl ?_
  refine zz_aload_n C 1 ddM_would_43 rfl rfl ?_
  refine zz_iconst (v := 0) C ddM_would_44 (by decide) ?_
  obtain ⟨h2, h⟩ := gdN h
  obtain ⟨q1, hq1, h⟩ := bindN h
  refine zz_callV0 (As := [.int 0]) C ddM_would_45 wd_1678 my_M_takeBack mv_M_takeBack ⟨_, rfl, rfl⟩ (xM_takeBack hG (d - 1) (by omega) hq1) (by omega) h2 rfl rfl (Nat.le_of_ble_eq_true rfl) ?_
  refine zz_iload_n C 0 ddM_would_48 rfl rfl ?_
  refine zz_if_eq (tgt := 59) C ddM_would_49 rfl (fun hc => ?_) (fun hc => ?_)
  · replace h := iteT h hc
    refine zz_iconst (v := (-1)) C ddM_would_59 (by decide) ?_
    refine zz_loc (L1 := []) [] rfl ?_
    exact zBM_would_60 hG C N hD hd E h
  · replace h := iteF h hc
    refine zz_aload_n C 1 ddM_would_52 rfl rfl ?_
    obtain ⟨h3, h⟩ := gdN h
    refine zz_geti C ddM_would_53 fl_M_217 rfl h3 ?_
    refine zz_goto (tgt := 60) C ddM_would_56 rfl ?_
    refine zz_loc (L1 := []) [] rfl ?_
    exact zBM_would_60 hG C N hD hd E h
set_option maxHeartbeats 2000000 in
theorem zBM_would_16 {G : GXM} {X : CxM} (hG : GokM G) (C : CoM G X cM_would "HomeFreedModel") (N : mLM X = 4) {d : Nat} (hD : dpM X = d) (hd : 8 ≤ d)  {q : Int32 × Mem} (E : EnM G X (some .int) (some (.int q.1)) q.2 0 0) {M : Mem} (h : BM_would_16 M = some q) : ZM G X 16 [] [] M 0 0 := by
  unfold BM_would_16 at h
  refine zz_iconst (v := (-1)) C ddM_would_16 (by decide) ?_
  obtain rfl := Option.some.inj h
  exact zz_iret C E ddM_would_17
set_option maxHeartbeats 2000000 in
theorem xM_would {G : GXM} {l : Launch} (hG : GokM G) (d : Nat) (hd : 8 ≤ d) {v0 : Nat} {v1 : Int32} {v2 : Int32} {M : Mem} {q : Int32 × Mem} (h : fM_would v0 v1 v2 M = some q) : ExM G l d 0 0 yM_would cM_would 4 (some .int) [.ref v0, .int v1, .int v2] M (some (.int q.1)) q.2 := by
  refine ex_of hG (by decide +kernel) (Nat.le_of_ble_eq_true rfl) ?_
  intro X hl C E N hD hn
  show ZM G X 0 [(0, .ref v0), (1, .int v1), (2, .int v2)] [] M 0 0
  unfold fM_would at h
  refine zz_aload_n C 0 ddM_would_0 rfl rfl ?_
  refine zz_iload_n C 1 ddM_would_1 rfl rfl ?_
  obtain ⟨h2, h⟩ := gdN h
  obtain ⟨q1, hq1, h⟩ := bindN h
  refine zz_callV0 (As := [.int v1]) C ddM_would_2 wd_1463 my_M_doesLive mv_M_doesLive ⟨_, rfl, rfl⟩ (xM_doesLive hG (d - 1) (by omega) hq1) (by omega) h2 rfl rfl (Nat.le_of_ble_eq_true rfl) ?_
  refine zz_if_eq (tgt := 16) C ddM_would_5 rfl (fun hc => ?_) (fun hc => ?_)
  · replace h := iteT h hc
    refine zz_loc (L1 := []) [] rfl ?_
    exact zBM_would_16 hG C N hD hd E h
  · replace h := iteF h hc
    refine zz_aload_n C 0 ddM_would_8 rfl rfl ?_
    refine zz_iload_n C 2 ddM_would_9 rfl rfl ?_
    obtain ⟨h4, h⟩ := gdN h
    obtain ⟨q3, hq3, h⟩ := bindN h
    refine zz_callV0 (As := [.int v2]) C ddM_would_10 wd_1455 my_M_isAsked mv_M_isAsked ⟨_, rfl, rfl⟩ (xM_isAsked hG (d - 1) (by omega) hq3) (by omega) h4 rfl rfl (Nat.le_of_ble_eq_true rfl) ?_
    refine zz_if_ne (tgt := 18) C ddM_would_13 rfl (fun hc => ?_) (fun hc => ?_)
    · replace h := iteF h hc
      refine zz_aload_n C 0 ddM_would_18 rfl rfl ?_
      refine zz_iconst (v := 0) C ddM_would_19 (by decide) ?_
      obtain ⟨h6, h⟩ := gdN h
      obtain ⟨q5, hq5, h⟩ := bindN h
      refine zz_callV0 (As := [.int 0]) C ddM_would_20 wd_1674 my_M_putAside mv_M_putAside ⟨_, rfl, rfl⟩ (xM_putAside hG (d - 1) (by omega) hq5) (by omega) h6 rfl rfl (Nat.le_of_ble_eq_true rfl) ?_
      refine zz_aload_n C 0 ddM_would_23 rfl rfl ?_
      refine zz_iload_n C 1 ddM_would_24 rfl rfl ?_
      refine zz_aload_n C 0 ddM_would_25 rfl rfl ?_
      refine zz_iload_n C 2 ddM_would_26 rfl rfl ?_
      obtain ⟨h8, h⟩ := gdN h
      obtain ⟨q7, hq7, h⟩ := bindN h
      refine zz_callV0 (As := [.int v2]) C ddM_would_27 wd_1459 my_M_classFor mv_M_classFor ⟨_, rfl, rfl⟩ (xM_classFor hG (d - 1) (by omega) hq7) (by omega) h8 rfl rfl (Nat.le_of_ble_eq_true rfl) ?_
      obtain ⟨h10, h⟩ := gdN h
      obtain ⟨q9, hq9, h⟩ := bindN h
      refine zz_callV0 (As := [.int v1, .int q7.1]) C ddM_would_30 wd_1483 my_M_getNow mv_M_getNow ⟨_, rfl, rfl⟩ (xM_getNow hG (d - 1) (by omega) hq9) (by omega) h10 rfl rfl (Nat.le_of_ble_eq_true rfl) ?_
      refine zz_iconst (v := (-1)) C ddM_would_33 (by decide) ?_
      refine zz_icmp_eq (tgt := 41) C ddM_would_34 rfl (fun hc => ?_) (fun hc => ?_)
      · replace h := iteT h hc
        refine zz_iconst (v := 0) C ddM_would_41 (by decide) ?_
        refine zz_loc (L1 := [(0, .ref v0)]) [0] rfl ?_
        exact zBM_would_42 hG C N hD hd E h
      · replace h := iteF h hc
        refine zz_iconst (v := 1) C ddM_would_37 (by decide) ?_
        refine zz_goto (tgt := 42) C ddM_would_38 rfl ?_
        refine zz_loc (L1 := [(0, .ref v0)]) [0] rfl ?_
        exact zBM_would_42 hG C N hD hd E h
    · replace h := iteT h hc
      refine zz_loc (L1 := []) [] rfl ?_
      exact zBM_would_16 hG C N hD hd E h
theorem ddM_placeIn_0 : decode cM_placeIn 0 = .ok (.iconst 1, 1) := by decide +kernel
theorem ddM_placeIn_1 : decode cM_placeIn 1 = .ok (.istore_n 3, 1) := by decide +kernel
theorem ddM_placeIn_2 : decode cM_placeIn 2 = .ok (.iload_n 3, 1) := by decide +kernel
theorem ddM_placeIn_3 : decode cM_placeIn 3 = .ok (.aload_n 0, 1) := by decide +kernel
theorem ddM_placeIn_4 : decode cM_placeIn 4 = .ok (.getfield 31, 3) := by decide +kernel
theorem ddM_placeIn_7 : decode cM_placeIn 7 = .ok (.iload_n 1, 1) := by decide +kernel
theorem ddM_placeIn_8 : decode cM_placeIn 8 = .ok (.iaload, 1) := by decide +kernel
theorem ddM_placeIn_9 : decode cM_placeIn 9 = .ok (.if_icmp .gt 25, 3) := by decide +kernel
theorem ddM_placeIn_12 : decode cM_placeIn 12 = .ok (.aload_n 0, 1) := by decide +kernel
theorem ddM_placeIn_13 : decode cM_placeIn 13 = .ok (.getfield 31, 3) := by decide +kernel
theorem ddM_placeIn_16 : decode cM_placeIn 16 = .ok (.iload_n 1, 1) := by decide +kernel
theorem ddM_placeIn_17 : decode cM_placeIn 17 = .ok (.iload_n 3, 1) := by decide +kernel
theorem ddM_placeIn_18 : decode cM_placeIn 18 = .ok (.iadd, 1) := by decide +kernel
theorem ddM_placeIn_19 : decode cM_placeIn 19 = .ok (.iaload, 1) := by decide +kernel
theorem ddM_placeIn_20 : decode cM_placeIn 20 = .ok (.iload_n 2, 1) := by decide +kernel
theorem ddM_placeIn_21 : decode cM_placeIn 21 = .ok (.if_icmp .ne 7, 3) := by decide +kernel
theorem ddM_placeIn_24 : decode cM_placeIn 24 = .ok (.iload_n 3, 1) := by decide +kernel
theorem ddM_placeIn_25 : decode cM_placeIn 25 = .ok (.iconst 1, 1) := by decide +kernel
theorem ddM_placeIn_26 : decode cM_placeIn 26 = .ok (.isub, 1) := by decide +kernel
theorem ddM_placeIn_27 : decode cM_placeIn 27 = .ok (.ireturn, 1) := by decide +kernel
theorem ddM_placeIn_28 : decode cM_placeIn 28 = .ok (.iinc 3 1, 3) := by decide +kernel
theorem ddM_placeIn_31 : decode cM_placeIn 31 = .ok (.goto (-29), 3) := by decide +kernel
theorem ddM_placeIn_34 : decode cM_placeIn 34 = .ok (.iconst (-1), 1) := by decide +kernel
theorem ddM_placeIn_35 : decode cM_placeIn 35 = .ok (.ireturn, 1) := by decide +kernel
set_option maxHeartbeats 2000000 in
theorem zBM_placeIn_2 {G : GXM} {X : CxM} (hG : GokM G) (C : CoM G X cM_placeIn "HomeFreedModel") (N : mLM X = 4) {d : Nat} (hD : dpM X = d) (hd : 0 ≤ d) {v0 : Nat} {v1 : Int32} {v2 : Int32} {K : Nat → Int32 → Int32 → Int32 → Mem → Option ((Int32 × Mem))} {q : (Int32 × Mem)} (hK : ∀ (v3 : Int32) (M : Mem), K v0 v1 v2 v3 M = some q → ZM G X 2 [(0, .ref v0), (1, .int v1), (2, .int v2), (3, .int v3)] [] M 0 0) (hr : ∀ r : Int32 × Mem, q =  r → EnM G X (some .int) (some (.int r.1)) r.2 0 0) {v3 : Int32} {M : Mem} (h : BM_placeIn_2 K v0 v1 v2 v3 M = some q) : ZM G X 2 [(0, .ref v0), (1, .int v1), (2, .int v2), (3, .int v3)] [] M 0 0 := by
  unfold BM_placeIn_2 at h
  refine zz_iload_n C 3 ddM_placeIn_2 rfl rfl ?_
  refine zz_aload_n C 0 ddM_placeIn_3 rfl rfl ?_
  obtain ⟨h1, h⟩ := gdN h
  obtain ⟨h2, h⟩ := gdN h
  refine zz_getr C ddM_placeIn_4 fl_M_31 rfl h1 (of_decide_eq_true h2) ?_
  refine zz_iload_n C 1 ddM_placeIn_7 rfl rfl ?_
  obtain ⟨h3, h⟩ := gdN h
  refine zz_iaload C ddM_placeIn_8 h3 ?_
  refine zz_icmp_gt (tgt := 34) C ddM_placeIn_9 rfl (fun hc => ?_) (fun hc => ?_)
  · replace h := iteT h hc
    refine zz_iconst (v := (-1)) C ddM_placeIn_34 (by decide) ?_
    exact zz_iret C (hr _ (Option.some.inj h).symm) ddM_placeIn_35
  · replace h := iteF h hc
    refine zz_aload_n C 0 ddM_placeIn_12 rfl rfl ?_
    refine zz_getr C ddM_placeIn_13 fl_M_31 rfl h1 (of_decide_eq_true h2) ?_
    refine zz_iload_n C 1 ddM_placeIn_16 rfl rfl ?_
    refine zz_iload_n C 3 ddM_placeIn_17 rfl rfl ?_
    refine zz_iadd C ddM_placeIn_18 ?_
    obtain ⟨h4, h⟩ := gdN h
    refine zz_iaload C ddM_placeIn_19 h4 ?_
    refine zz_iload_n C 2 ddM_placeIn_20 rfl rfl ?_
    refine zz_icmp_ne (tgt := 28) C ddM_placeIn_21 rfl (fun hc => ?_) (fun hc => ?_)
    · replace h := iteF h hc
      refine zz_iinc (v := v3 + 1) (L1 := [(3, .int (v3 + 1)), (0, .ref v0), (1, .int v1), (2, .int v2)]) C 3 ddM_placeIn_28 rfl rfl N (by decide) rfl ?_
      refine zz_goto (tgt := 2) C ddM_placeIn_31 rfl ?_
      refine zz_loc (L1 := [(0, .ref v0), (1, .int v1), (2, .int v2), (3, .int (v3 + 1))]) [1, 2, 3, 0] rfl ?_
      exact hK _ _ h
    · replace h := iteT h hc
      refine zz_iload_n C 3 ddM_placeIn_24 rfl rfl ?_
      refine zz_iconst (v := 1) C ddM_placeIn_25 (by decide) ?_
      refine zz_isub C ddM_placeIn_26 ?_
      exact zz_iret C (hr _ (Option.some.inj h).symm) ddM_placeIn_27
set_option maxHeartbeats 2000000 in
theorem zLM_placeIn_2 {G : GXM} {X : CxM} (hG : GokM G) (C : CoM G X cM_placeIn "HomeFreedModel") (N : mLM X = 4) {d : Nat} (hD : dpM X = d) (hd : 0 ≤ d) {v0 : Nat} {v1 : Int32} {v2 : Int32} {q : (Int32 × Mem)} : ∀ (f : Nat) (v3 : Int32) (M : Mem), LM_placeIn_2 f v0 v1 v2 v3 M = some q → (hr : ∀ r : Int32 × Mem, q =  r → EnM G X (some .int) (some (.int r.1)) r.2 0 0) → ZM G X 2 [(0, .ref v0), (1, .int v1), (2, .int v2), (3, .int v3)] [] M 0 0 := by
  intro f
  induction f with
  | zero => intro v3 M h; cases h
  | succ f ih =>
    intro v3 M h hr
    exact zBM_placeIn_2 hG C N hD hd (K := LM_placeIn_2 f) (q := q) (fun v3 M h => ih v3 M h hr) hr h
set_option maxHeartbeats 2000000 in
theorem xM_placeIn {G : GXM} {l : Launch} (hG : GokM G) (d : Nat) (hd : 0 ≤ d) {v0 : Nat} {v1 : Int32} {v2 : Int32} {M : Mem} {q : Int32 × Mem} (h : fM_placeIn v0 v1 v2 M = some q) : ExM G l d 0 0 yM_placeIn cM_placeIn 4 (some .int) [.ref v0, .int v1, .int v2] M (some (.int q.1)) q.2 := by
  refine ex_of hG (by decide +kernel) (Nat.le_of_ble_eq_true rfl) ?_
  intro X hl C E N hD hn
  show ZM G X 0 [(0, .ref v0), (1, .int v1), (2, .int v2)] [] M 0 0
  unfold fM_placeIn at h
  refine zz_iconst (v := 1) C ddM_placeIn_0 (by decide) ?_
  refine zz_istore_n (L1 := [(3, .int 1), (0, .ref v0), (1, .int v1), (2, .int v2)]) C ddM_placeIn_1 rfl N (by decide) rfl ?_
  refine zz_loc (L1 := [(0, .ref v0), (1, .int v1), (2, .int v2), (3, .int 1)]) [1, 2, 3, 0] rfl ?_
  obtain ⟨q1, hq1, h⟩ := bindN h
  refine zLM_placeIn_2 hG C N hD hd 1000000 _ _ hq1 ?_
  · intro r2 eq1; replace eq1 := eq1.symm; subst eq1
    obtain rfl := Option.some.inj h
    exact E
theorem ddM_where_0 : decode cM_where 0 = .ok (.aload_n 0, 1) := by decide +kernel
theorem ddM_where_1 : decode cM_where 1 = .ok (.iload_n 1, 1) := by decide +kernel
theorem ddM_where_2 : decode cM_where 2 = .ok (.invokevirtual 306, 3) := by decide +kernel
theorem ddM_where_5 : decode cM_where 5 = .ok (.ifCond .eq 12, 3) := by decide +kernel
theorem ddM_where_8 : decode cM_where 8 = .ok (.iload_n 2, 1) := by decide +kernel
theorem ddM_where_9 : decode cM_where 9 = .ok (.iconst 0, 1) := by decide +kernel
theorem ddM_where_10 : decode cM_where 10 = .ok (.iconst 3, 1) := by decide +kernel
theorem ddM_where_11 : decode cM_where 11 = .ok (.invokestatic 75, 3) := by decide +kernel
theorem ddM_where_14 : decode cM_where 14 = .ok (.ifCond .ne 5, 3) := by decide +kernel
theorem ddM_where_17 : decode cM_where 17 = .ok (.iconst (-1), 1) := by decide +kernel
theorem ddM_where_18 : decode cM_where 18 = .ok (.ireturn, 1) := by decide +kernel
theorem ddM_where_19 : decode cM_where 19 = .ok (.iload_n 1, 1) := by decide +kernel
theorem ddM_where_20 : decode cM_where 20 = .ok (.bipush 100, 2) := by decide +kernel
theorem ddM_where_22 : decode cM_where 22 = .ok (.idiv, 1) := by decide +kernel
theorem ddM_where_23 : decode cM_where 23 = .ok (.istore_n 3, 1) := by decide +kernel
theorem ddM_where_24 : decode cM_where 24 = .ok (.iload_n 1, 1) := by decide +kernel
theorem ddM_where_25 : decode cM_where 25 = .ok (.bipush 100, 2) := by decide +kernel
theorem ddM_where_27 : decode cM_where 27 = .ok (.irem, 1) := by decide +kernel
theorem ddM_where_28 : decode cM_where 28 = .ok (.istore 4, 2) := by decide +kernel
theorem ddM_where_30 : decode cM_where 30 = .ok (.aload_n 0, 1) := by decide +kernel
theorem ddM_where_31 : decode cM_where 31 = .ok (.iload_n 1, 1) := by decide +kernel
theorem ddM_where_32 : decode cM_where 32 = .ok (.invokevirtual 309, 3) := by decide +kernel
theorem ddM_where_35 : decode cM_where 35 = .ok (.ifCond .eq 13, 3) := by decide +kernel
theorem ddM_where_38 : decode cM_where 38 = .ok (.iload_n 2, 1) := by decide +kernel
theorem ddM_where_39 : decode cM_where 39 = .ok (.ifCond .ne 7, 3) := by decide +kernel
theorem ddM_where_42 : decode cM_where 42 = .ok (.iconst 0, 1) := by decide +kernel
theorem ddM_where_43 : decode cM_where 43 = .ok (.goto 4, 3) := by decide +kernel
theorem ddM_where_46 : decode cM_where 46 = .ok (.iconst (-1), 1) := by decide +kernel
theorem ddM_where_47 : decode cM_where 47 = .ok (.ireturn, 1) := by decide +kernel
theorem ddM_where_48 : decode cM_where 48 = .ok (.iconst 0, 1) := by decide +kernel
theorem ddM_where_49 : decode cM_where 49 = .ok (.istore 5, 2) := by decide +kernel
theorem ddM_where_51 : decode cM_where 51 = .ok (.iload 5, 2) := by decide +kernel
theorem ddM_where_53 : decode cM_where 53 = .ok (.iconst 3, 1) := by decide +kernel
theorem ddM_where_54 : decode cM_where 54 = .ok (.if_icmp .ge 52, 3) := by decide +kernel
theorem ddM_where_57 : decode cM_where 57 = .ok (.aload_n 0, 1) := by decide +kernel
theorem ddM_where_58 : decode cM_where 58 = .ok (.iload_n 3, 1) := by decide +kernel
theorem ddM_where_59 : decode cM_where 59 = .ok (.iload 5, 2) := by decide +kernel
theorem ddM_where_61 : decode cM_where 61 = .ok (.invokestatic 173, 3) := by decide +kernel
theorem ddM_where_64 : decode cM_where 64 = .ok (.iload 4, 2) := by decide +kernel
theorem ddM_where_66 : decode cM_where 66 = .ok (.invokevirtual 357, 3) := by decide +kernel
theorem ddM_where_69 : decode cM_where 69 = .ok (.istore 6, 2) := by decide +kernel
theorem ddM_where_71 : decode cM_where 71 = .ok (.iload 6, 2) := by decide +kernel
theorem ddM_where_73 : decode cM_where 73 = .ok (.iconst (-1), 1) := by decide +kernel
theorem ddM_where_74 : decode cM_where 74 = .ok (.if_icmp .eq 26, 3) := by decide +kernel
theorem ddM_where_77 : decode cM_where 77 = .ok (.iload_n 2, 1) := by decide +kernel
theorem ddM_where_78 : decode cM_where 78 = .ok (.ifCond .ne 10, 3) := by decide +kernel
theorem ddM_where_81 : decode cM_where 81 = .ok (.iload 5, 2) := by decide +kernel
theorem ddM_where_83 : decode cM_where 83 = .ok (.iconst 1, 1) := by decide +kernel
theorem ddM_where_84 : decode cM_where 84 = .ok (.iadd, 1) := by decide +kernel
theorem ddM_where_85 : decode cM_where 85 = .ok (.goto 14, 3) := by decide +kernel
theorem ddM_where_88 : decode cM_where 88 = .ok (.iload_n 2, 1) := by decide +kernel
theorem ddM_where_89 : decode cM_where 89 = .ok (.iconst 1, 1) := by decide +kernel
theorem ddM_where_90 : decode cM_where 90 = .ok (.if_icmp .ne 8, 3) := by decide +kernel
theorem ddM_where_93 : decode cM_where 93 = .ok (.iload 6, 2) := by decide +kernel
theorem ddM_where_95 : decode cM_where 95 = .ok (.goto 4, 3) := by decide +kernel
theorem ddM_where_98 : decode cM_where 98 = .ok (.iconst (-1), 1) := by decide +kernel
theorem ddM_where_99 : decode cM_where 99 = .ok (.ireturn, 1) := by decide +kernel
theorem ddM_where_100 : decode cM_where 100 = .ok (.iinc 5 1, 3) := by decide +kernel
theorem ddM_where_103 : decode cM_where 103 = .ok (.goto (-52), 3) := by decide +kernel
theorem ddM_where_106 : decode cM_where 106 = .ok (.iconst 0, 1) := by decide +kernel
theorem ddM_where_107 : decode cM_where 107 = .ok (.istore 5, 2) := by decide +kernel
theorem ddM_where_109 : decode cM_where 109 = .ok (.iload 5, 2) := by decide +kernel
theorem ddM_where_111 : decode cM_where 111 = .ok (.aload_n 0, 1) := by decide +kernel
theorem ddM_where_112 : decode cM_where 112 = .ok (.getfield 19, 3) := by decide +kernel
theorem ddM_where_115 : decode cM_where 115 = .ok (.iconst 0, 1) := by decide +kernel
theorem ddM_where_116 : decode cM_where 116 = .ok (.iaload, 1) := by decide +kernel
theorem ddM_where_117 : decode cM_where 117 = .ok (.if_icmp .ge 76, 3) := by decide +kernel
theorem ddM_where_120 : decode cM_where 120 = .ok (.aload_n 0, 1) := by decide +kernel
theorem ddM_where_121 : decode cM_where 121 = .ok (.iload 5, 2) := by decide +kernel
theorem ddM_where_123 : decode cM_where 123 = .ok (.iload_n 3, 1) := by decide +kernel
theorem ddM_where_124 : decode cM_where 124 = .ok (.invokestatic 238, 3) := by decide +kernel
theorem ddM_where_127 : decode cM_where 127 = .ok (.iload 4, 2) := by decide +kernel
theorem ddM_where_129 : decode cM_where 129 = .ok (.invokevirtual 357, 3) := by decide +kernel
theorem ddM_where_132 : decode cM_where 132 = .ok (.istore 6, 2) := by decide +kernel
theorem ddM_where_134 : decode cM_where 134 = .ok (.iload 6, 2) := by decide +kernel
theorem ddM_where_136 : decode cM_where 136 = .ok (.iconst (-1), 1) := by decide +kernel
theorem ddM_where_137 : decode cM_where 137 = .ok (.if_icmp .eq 50, 3) := by decide +kernel
theorem ddM_where_140 : decode cM_where 140 = .ok (.iload_n 2, 1) := by decide +kernel
theorem ddM_where_141 : decode cM_where 141 = .ok (.ifCond .ne 7, 3) := by decide +kernel
theorem ddM_where_144 : decode cM_where 144 = .ok (.iconst 4, 1) := by decide +kernel
theorem ddM_where_145 : decode cM_where 145 = .ok (.goto 41, 3) := by decide +kernel
theorem ddM_where_148 : decode cM_where 148 = .ok (.iload_n 2, 1) := by decide +kernel
theorem ddM_where_149 : decode cM_where 149 = .ok (.iconst 1, 1) := by decide +kernel
theorem ddM_where_150 : decode cM_where 150 = .ok (.if_icmp .ne 8, 3) := by decide +kernel
theorem ddM_where_153 : decode cM_where 153 = .ok (.iload 6, 2) := by decide +kernel
theorem ddM_where_155 : decode cM_where 155 = .ok (.goto 31, 3) := by decide +kernel
theorem ddM_where_158 : decode cM_where 158 = .ok (.iload_n 2, 1) := by decide +kernel
theorem ddM_where_159 : decode cM_where 159 = .ok (.iconst 2, 1) := by decide +kernel
theorem ddM_where_160 : decode cM_where 160 = .ok (.if_icmp .ne 8, 3) := by decide +kernel
theorem ddM_where_163 : decode cM_where 163 = .ok (.iload 5, 2) := by decide +kernel
theorem ddM_where_165 : decode cM_where 165 = .ok (.goto 21, 3) := by decide +kernel
theorem ddM_where_168 : decode cM_where 168 = .ok (.aload_n 0, 1) := by decide +kernel
theorem ddM_where_169 : decode cM_where 169 = .ok (.getfield 19, 3) := by decide +kernel
theorem ddM_where_172 : decode cM_where 172 = .ok (.iconst 3, 1) := by decide +kernel
theorem ddM_where_173 : decode cM_where 173 = .ok (.iaload, 1) := by decide +kernel
theorem ddM_where_174 : decode cM_where 174 = .ok (.aload_n 0, 1) := by decide +kernel
theorem ddM_where_175 : decode cM_where 175 = .ok (.getfield 31, 3) := by decide +kernel
theorem ddM_where_178 : decode cM_where 178 = .ok (.iload 5, 2) := by decide +kernel
theorem ddM_where_180 : decode cM_where 180 = .ok (.iload_n 3, 1) := by decide +kernel
theorem ddM_where_181 : decode cM_where 181 = .ok (.invokestatic 238, 3) := by decide +kernel
theorem ddM_where_184 : decode cM_where 184 = .ok (.iaload, 1) := by decide +kernel
theorem ddM_where_185 : decode cM_where 185 = .ok (.isub, 1) := by decide +kernel
theorem ddM_where_186 : decode cM_where 186 = .ok (.ireturn, 1) := by decide +kernel
theorem ddM_where_187 : decode cM_where 187 = .ok (.iinc 5 1, 3) := by decide +kernel
theorem ddM_where_190 : decode cM_where 190 = .ok (.goto (-81), 3) := by decide +kernel
theorem ddM_where_193 : decode cM_where 193 = .ok (.iconst (-1), 1) := by decide +kernel
theorem ddM_where_194 : decode cM_where 194 = .ok (.ireturn, 1) := by decide +kernel
set_option maxHeartbeats 2000000 in
theorem zBM_where_186 {G : GXM} {X : CxM} (hG : GokM G) (C : CoM G X cM_where "HomeFreedModel") (N : mLM X = 7) {d : Nat} (hD : dpM X = d) (hd : 3 ≤ d)  {q : Int32 × Mem} (E : EnM G X (some .int) (some (.int q.1)) q.2 0 0) {w0 : Int32} {M : Mem} (h : BM_where_186 w0 M = some q) : ZM G X 186 [] [.int w0] M 0 0 := by
  unfold BM_where_186 at h
  obtain rfl := Option.some.inj h
  exact zz_iret C E ddM_where_186
set_option maxHeartbeats 2000000 in
theorem zBM_where_109 {G : GXM} {X : CxM} (hG : GokM G) (C : CoM G X cM_where "HomeFreedModel") (N : mLM X = 7) {d : Nat} (hD : dpM X = d) (hd : 3 ≤ d) {v0 : Nat} {v2 : Int32} {v3 : Int32} {v4 : Int32} {K : Nat → Int32 → Int32 → Int32 → Int32 → Mem → Option ((Int32 × Mem) ⊕ (Int32 × Int32 × Mem))} {q : (Int32 × Mem) ⊕ (Int32 × Int32 × Mem)} (hK : ∀ (v5 : Int32) (M : Mem), K v0 v2 v3 v4 v5 M = some q → ZM G X 109 [(0, .ref v0), (2, .int v2), (3, .int v3), (4, .int v4), (5, .int v5)] [] M 0 0) (hr : ∀ r : Int32 × Mem, q = .inl r → EnM G X (some .int) (some (.int r.1)) r.2 0 0) (hx0 : ∀ y : Int32 × Int32 × Mem, q = (.inr y) → ZM G X 140 [(0, .ref v0), (2, .int v2), (3, .int v3), (5, .int y.1), (6, .int y.2.1)] [] y.2.2 0 0) {v5 : Int32} {M : Mem} (h : BM_where_109 K v0 v2 v3 v4 v5 M = some q) : ZM G X 109 [(0, .ref v0), (2, .int v2), (3, .int v3), (4, .int v4), (5, .int v5)] [] M 0 0 := by
  unfold BM_where_109 at h
  refine zz_iload C 4 ddM_where_109 rfl ?_
  refine zz_aload_n C 0 ddM_where_111 rfl rfl ?_
  obtain ⟨h1, h⟩ := gdN h
  obtain ⟨h2, h⟩ := gdN h
  refine zz_getr C ddM_where_112 fl_M_19 rfl h1 (of_decide_eq_true h2) ?_
  refine zz_iconst (v := 0) C ddM_where_115 (by decide) ?_
  obtain ⟨h3, h⟩ := gdN h
  refine zz_iaload C ddM_where_116 h3 ?_
  refine zz_icmp_ge (tgt := 193) C ddM_where_117 rfl (fun hc => ?_) (fun hc => ?_)
  · replace h := iteT h hc
    refine zz_iconst (v := (-1)) C ddM_where_193 (by decide) ?_
    exact zz_iret C (hr _ (Option.some.inj h).symm) ddM_where_194
  · replace h := iteF h hc
    refine zz_aload_n C 0 ddM_where_120 rfl rfl ?_
    refine zz_iload C 4 ddM_where_121 rfl ?_
    refine zz_iload_n C 2 ddM_where_123 rfl rfl ?_
    obtain ⟨q4, hq4, h⟩ := bindN h
    refine zz_callS0 (As := [.int v5, .int v3]) C ddM_where_124 wd_1425 my_M_boxAt mv_M_boxAt (xM_boxAt hG (d - 1) (by omega) hq4) (by omega) rfl rfl (Nat.le_of_ble_eq_true rfl) ?_
    refine zz_iload C 3 ddM_where_127 rfl ?_
    obtain ⟨h6, h⟩ := gdN h
    obtain ⟨q5, hq5, h⟩ := bindN h
    refine zz_callV0 (As := [.int q4.1, .int v4]) C ddM_where_129 wd_1686 my_M_placeIn mv_M_placeIn ⟨_, rfl, rfl⟩ (xM_placeIn hG (d - 1) (by omega) hq5) (by omega) h6 rfl rfl (Nat.le_of_ble_eq_true rfl) ?_
    refine zz_istore (L1 := [(6, .int q5.1), (0, .ref v0), (2, .int v2), (3, .int v3), (4, .int v4), (5, .int v5)]) C ddM_where_132 N (by decide) rfl ?_
    refine zz_iload C 0 ddM_where_134 rfl ?_
    refine zz_iconst (v := (-1)) C ddM_where_136 (by decide) ?_
    refine zz_icmp_eq (tgt := 187) C ddM_where_137 rfl (fun hc => ?_) (fun hc => ?_)
    · replace h := iteT h hc
      refine zz_iinc (v := v5 + 1) (L1 := [(5, .int (v5 + 1)), (6, .int q5.1), (0, .ref v0), (2, .int v2), (3, .int v3), (4, .int v4)]) C 5 ddM_where_187 rfl rfl N (by decide) rfl ?_
      refine zz_goto (tgt := 109) C ddM_where_190 rfl ?_
      refine zz_loc (L1 := [(0, .ref v0), (2, .int v2), (3, .int v3), (4, .int v4), (5, .int (v5 + 1))]) [2, 3, 4, 5, 0] rfl ?_
      exact hK _ _ h
    · replace h := iteF h hc
      refine zz_loc (L1 := [(0, .ref v0), (2, .int v2), (3, .int v3), (5, .int v5), (6, .int q5.1)]) [1, 2, 3, 5, 0] rfl ?_
      exact hx0 _ (Option.some.inj h).symm
set_option maxHeartbeats 2000000 in
theorem zLM_where_109 {G : GXM} {X : CxM} (hG : GokM G) (C : CoM G X cM_where "HomeFreedModel") (N : mLM X = 7) {d : Nat} (hD : dpM X = d) (hd : 3 ≤ d) {v0 : Nat} {v2 : Int32} {v3 : Int32} {v4 : Int32} {q : (Int32 × Mem) ⊕ (Int32 × Int32 × Mem)} : ∀ (f : Nat) (v5 : Int32) (M : Mem), LM_where_109 f v0 v2 v3 v4 v5 M = some q → (hr : ∀ r : Int32 × Mem, q = .inl r → EnM G X (some .int) (some (.int r.1)) r.2 0 0) → (hx0 : ∀ y : Int32 × Int32 × Mem, q = (.inr y) → ZM G X 140 [(0, .ref v0), (2, .int v2), (3, .int v3), (5, .int y.1), (6, .int y.2.1)] [] y.2.2 0 0) → ZM G X 109 [(0, .ref v0), (2, .int v2), (3, .int v3), (4, .int v4), (5, .int v5)] [] M 0 0 := by
  intro f
  induction f with
  | zero => intro v5 M h; cases h
  | succ f ih =>
    intro v5 M h hr hx0
    exact zBM_where_109 hG C N hD hd (K := LM_where_109 f) (q := q) (fun v5 M h => ih v5 M h hr hx0) hr hx0 h
set_option maxHeartbeats 2000000 in
theorem zBM_where_99 {G : GXM} {X : CxM} (hG : GokM G) (C : CoM G X cM_where "HomeFreedModel") (N : mLM X = 7) {d : Nat} (hD : dpM X = d) (hd : 3 ≤ d)  {q : Int32 × Mem} (E : EnM G X (some .int) (some (.int q.1)) q.2 0 0) {w0 : Int32} {M : Mem} (h : BM_where_99 w0 M = some q) : ZM G X 99 [] [.int w0] M 0 0 := by
  unfold BM_where_99 at h
  obtain rfl := Option.some.inj h
  exact zz_iret C E ddM_where_99
set_option maxHeartbeats 2000000 in
theorem zBM_where_51 {G : GXM} {X : CxM} (hG : GokM G) (C : CoM G X cM_where "HomeFreedModel") (N : mLM X = 7) {d : Nat} (hD : dpM X = d) (hd : 3 ≤ d) {v0 : Nat} {v2 : Int32} {v3 : Int32} {v4 : Int32} {K : Nat → Int32 → Int32 → Int32 → Int32 → Mem → Option ((Int32 × Int32 × Mem) ⊕ (Mem))} {q : (Int32 × Int32 × Mem) ⊕ (Mem)} (hK : ∀ (v5 : Int32) (M : Mem), K v0 v2 v3 v4 v5 M = some q → ZM G X 51 [(0, .ref v0), (2, .int v2), (3, .int v3), (4, .int v4), (5, .int v5)] [] M 0 0) (hx0 : ∀ y : Int32 × Int32 × Mem, q = (.inl y) → ZM G X 77 [(2, .int v2), (5, .int y.1), (6, .int y.2.1)] [] y.2.2 0 0) (hx1 : ∀ y : Mem, q = (.inr y) → ZM G X 106 [(0, .ref v0), (2, .int v2), (3, .int v3), (4, .int v4)] [] y 0 0) {v5 : Int32} {M : Mem} (h : BM_where_51 K v0 v2 v3 v4 v5 M = some q) : ZM G X 51 [(0, .ref v0), (2, .int v2), (3, .int v3), (4, .int v4), (5, .int v5)] [] M 0 0 := by
  unfold BM_where_51 at h
  refine zz_iload C 4 ddM_where_51 rfl ?_
  refine zz_iconst (v := 3) C ddM_where_53 (by decide) ?_
  refine zz_icmp_ge (tgt := 106) C ddM_where_54 rfl (fun hc => ?_) (fun hc => ?_)
  · replace h := iteT h hc
    refine zz_loc (L1 := [(0, .ref v0), (2, .int v2), (3, .int v3), (4, .int v4)]) [0, 1, 2, 3] rfl ?_
    exact hx1 _ (Option.some.inj h).symm
  · replace h := iteF h hc
    refine zz_aload_n C 0 ddM_where_57 rfl rfl ?_
    refine zz_iload_n C 2 ddM_where_58 rfl rfl ?_
    refine zz_iload C 4 ddM_where_59 rfl ?_
    obtain ⟨q1, hq1, h⟩ := bindN h
    refine zz_callS0 (As := [.int v3, .int v5]) C ddM_where_61 wd_1398 my_M_listAt mv_M_listAt (xM_listAt hG (d - 1) (by omega) hq1) (by omega) rfl rfl (Nat.le_of_ble_eq_true rfl) ?_
    refine zz_iload C 3 ddM_where_64 rfl ?_
    obtain ⟨h3, h⟩ := gdN h
    obtain ⟨q2, hq2, h⟩ := bindN h
    refine zz_callV0 (As := [.int q1.1, .int v4]) C ddM_where_66 wd_1686 my_M_placeIn mv_M_placeIn ⟨_, rfl, rfl⟩ (xM_placeIn hG (d - 1) (by omega) hq2) (by omega) h3 rfl rfl (Nat.le_of_ble_eq_true rfl) ?_
    refine zz_istore (L1 := [(6, .int q2.1), (0, .ref v0), (2, .int v2), (3, .int v3), (4, .int v4), (5, .int v5)]) C ddM_where_69 N (by decide) rfl ?_
    refine zz_iload C 0 ddM_where_71 rfl ?_
    refine zz_iconst (v := (-1)) C ddM_where_73 (by decide) ?_
    refine zz_icmp_eq (tgt := 100) C ddM_where_74 rfl (fun hc => ?_) (fun hc => ?_)
    · replace h := iteT h hc
      refine zz_iinc (v := v5 + 1) (L1 := [(5, .int (v5 + 1)), (6, .int q2.1), (0, .ref v0), (2, .int v2), (3, .int v3), (4, .int v4)]) C 5 ddM_where_100 rfl rfl N (by decide) rfl ?_
      refine zz_goto (tgt := 51) C ddM_where_103 rfl ?_
      refine zz_loc (L1 := [(0, .ref v0), (2, .int v2), (3, .int v3), (4, .int v4), (5, .int (v5 + 1))]) [2, 3, 4, 5, 0] rfl ?_
      exact hK _ _ h
    · replace h := iteF h hc
      refine zz_loc (L1 := [(2, .int v2), (5, .int v5), (6, .int q2.1)]) [2, 5, 0] rfl ?_
      exact hx0 _ (Option.some.inj h).symm
set_option maxHeartbeats 2000000 in
theorem zLM_where_51 {G : GXM} {X : CxM} (hG : GokM G) (C : CoM G X cM_where "HomeFreedModel") (N : mLM X = 7) {d : Nat} (hD : dpM X = d) (hd : 3 ≤ d) {v0 : Nat} {v2 : Int32} {v3 : Int32} {v4 : Int32} {q : (Int32 × Int32 × Mem) ⊕ (Mem)} : ∀ (f : Nat) (v5 : Int32) (M : Mem), LM_where_51 f v0 v2 v3 v4 v5 M = some q → (hx0 : ∀ y : Int32 × Int32 × Mem, q = (.inl y) → ZM G X 77 [(2, .int v2), (5, .int y.1), (6, .int y.2.1)] [] y.2.2 0 0) → (hx1 : ∀ y : Mem, q = (.inr y) → ZM G X 106 [(0, .ref v0), (2, .int v2), (3, .int v3), (4, .int v4)] [] y 0 0) → ZM G X 51 [(0, .ref v0), (2, .int v2), (3, .int v3), (4, .int v4), (5, .int v5)] [] M 0 0 := by
  intro f
  induction f with
  | zero => intro v5 M h; cases h
  | succ f ih =>
    intro v5 M h hx0 hx1
    exact zBM_where_51 hG C N hD hd (K := LM_where_51 f) (q := q) (fun v5 M h => ih v5 M h hx0 hx1) hx0 hx1 h
set_option maxHeartbeats 2000000 in
theorem zBM_where_47 {G : GXM} {X : CxM} (hG : GokM G) (C : CoM G X cM_where "HomeFreedModel") (N : mLM X = 7) {d : Nat} (hD : dpM X = d) (hd : 3 ≤ d)  {q : Int32 × Mem} (E : EnM G X (some .int) (some (.int q.1)) q.2 0 0) {w0 : Int32} {M : Mem} (h : BM_where_47 w0 M = some q) : ZM G X 47 [] [.int w0] M 0 0 := by
  unfold BM_where_47 at h
  obtain rfl := Option.some.inj h
  exact zz_iret C E ddM_where_47
set_option maxHeartbeats 2000000 in
theorem zBM_where_17 {G : GXM} {X : CxM} (hG : GokM G) (C : CoM G X cM_where "HomeFreedModel") (N : mLM X = 7) {d : Nat} (hD : dpM X = d) (hd : 3 ≤ d)  {q : Int32 × Mem} (E : EnM G X (some .int) (some (.int q.1)) q.2 0 0) {M : Mem} (h : BM_where_17 M = some q) : ZM G X 17 [] [] M 0 0 := by
  unfold BM_where_17 at h
  refine zz_iconst (v := (-1)) C ddM_where_17 (by decide) ?_
  obtain rfl := Option.some.inj h
  exact zz_iret C E ddM_where_18
set_option maxHeartbeats 2000000 in
theorem xM_where {G : GXM} {l : Launch} (hG : GokM G) (d : Nat) (hd : 3 ≤ d) {v0 : Nat} {v1 : Int32} {v2 : Int32} {M : Mem} {q : Int32 × Mem} (h : fM_where v0 v1 v2 M = some q) : ExM G l d 0 0 yM_where cM_where 7 (some .int) [.ref v0, .int v1, .int v2] M (some (.int q.1)) q.2 := by
  refine ex_of hG (by decide +kernel) (Nat.le_of_ble_eq_true rfl) ?_
  intro X hl C E N hD hn
  show ZM G X 0 [(0, .ref v0), (1, .int v1), (2, .int v2)] [] M 0 0
  unfold fM_where at h
  refine zz_aload_n C 0 ddM_where_0 rfl rfl ?_
  refine zz_iload_n C 1 ddM_where_1 rfl rfl ?_
  obtain ⟨h2, h⟩ := gdN h
  obtain ⟨q1, hq1, h⟩ := bindN h
  refine zz_callV0 (As := [.int v1]) C ddM_where_2 wd_1443 my_M_isBlock mv_M_isBlock ⟨_, rfl, rfl⟩ (xM_isBlock hG (d - 1) (by omega) hq1) (by omega) h2 rfl rfl (Nat.le_of_ble_eq_true rfl) ?_
  refine zz_if_eq (tgt := 17) C ddM_where_5 rfl (fun hc => ?_) (fun hc => ?_)
  · replace h := iteT h hc
    refine zz_loc (L1 := []) [] rfl ?_
    exact zBM_where_17 hG C N hD hd E h
  · replace h := iteF h hc
    refine zz_iload_n C 2 ddM_where_8 rfl rfl ?_
    refine zz_iconst (v := 0) C ddM_where_9 (by decide) ?_
    refine zz_iconst (v := 3) C ddM_where_10 (by decide) ?_
    obtain ⟨q3, hq3, h⟩ := bindN h
    refine zz_callS0 (As := [.int v2, .int 0, .int 3]) C ddM_where_11 wd_1289 my_M_in mv_M_in (xM_in hG (d - 1) (by omega) hq3) (by omega) rfl rfl (Nat.le_of_ble_eq_true rfl) ?_
    refine zz_if_ne (tgt := 19) C ddM_where_14 rfl (fun hc => ?_) (fun hc => ?_)
    · replace h := iteF h hc
      refine zz_iload_n C 1 ddM_where_19 rfl rfl ?_
      refine zz_bipush (v := 100) C ddM_where_20 (by decide) ?_
      refine zz_idiv C ddM_where_22 (by decide) ?_
      refine zz_istore_n (L1 := [(3, .int (v1 / 100)), (0, .ref v0), (1, .int v1), (2, .int v2)]) C ddM_where_23 rfl N (by decide) rfl ?_
      refine zz_iload_n C 2 ddM_where_24 rfl rfl ?_
      refine zz_bipush (v := 100) C ddM_where_25 (by decide) ?_
      refine zz_irem C ddM_where_27 (by decide) ?_
      refine zz_istore (L1 := [(4, .int (v1 - v1 / 100 * 100)), (3, .int (v1 / 100)), (0, .ref v0), (1, .int v1), (2, .int v2)]) C ddM_where_28 N (by decide) rfl ?_
      refine zz_aload_n C 2 ddM_where_30 rfl rfl ?_
      refine zz_iload_n C 3 ddM_where_31 rfl rfl ?_
      obtain ⟨h5, h⟩ := gdN h
      obtain ⟨q4, hq4, h⟩ := bindN h
      refine zz_callV0 (As := [.int v1]) C ddM_where_32 wd_1447 my_M_isHeld mv_M_isHeld ⟨_, rfl, rfl⟩ (xM_isHeld hG (d - 1) (by omega) hq4) (by omega) h5 rfl rfl (Nat.le_of_ble_eq_true rfl) ?_
      refine zz_if_eq (tgt := 48) C ddM_where_35 rfl (fun hc => ?_) (fun hc => ?_)
      · replace h := iteT h hc
        refine zz_iconst (v := 0) C ddM_where_48 (by decide) ?_
        refine zz_istore (L1 := [(5, .int 0), (4, .int (v1 - v1 / 100 * 100)), (3, .int (v1 / 100)), (0, .ref v0), (1, .int v1), (2, .int v2)]) C ddM_where_49 N (by decide) rfl ?_
        refine zz_loc (L1 := [(0, .ref v0), (2, .int v2), (3, .int (v1 / 100)), (4, .int (v1 - v1 / 100 * 100)), (5, .int 0)]) [3, 5, 2, 1, 0] rfl ?_
        obtain ⟨q6, hq6, h⟩ := bindN h
        refine zLM_where_51 hG C N hD hd 1000000 _ _ hq6 ?_ ?_
        · intro y7 eq6; replace eq6 := eq6.symm; subst eq6
          refine zz_iload_n C 0 ddM_where_77 rfl rfl ?_
          refine zz_if_ne (tgt := 88) C ddM_where_78 rfl (fun hc => ?_) (fun hc => ?_)
          · replace h := iteF h hc
            refine zz_iload_n C 0 ddM_where_88 rfl rfl ?_
            refine zz_iconst (v := 1) C ddM_where_89 (by decide) ?_
            refine zz_icmp_ne (tgt := 98) C ddM_where_90 rfl (fun hc => ?_) (fun hc => ?_)
            · replace h := iteF h hc
              refine zz_iconst (v := (-1)) C ddM_where_98 (by decide) ?_
              refine zz_loc (L1 := []) [] rfl ?_
              exact zBM_where_99 hG C N hD hd E h
            · replace h := iteT h hc
              refine zz_iload C 2 ddM_where_93 rfl ?_
              refine zz_goto (tgt := 99) C ddM_where_95 rfl ?_
              refine zz_loc (L1 := []) [] rfl ?_
              exact zBM_where_99 hG C N hD hd E h
          · replace h := iteT h hc
            refine zz_iload C 1 ddM_where_81 rfl ?_
            refine zz_iconst (v := 1) C ddM_where_83 (by decide) ?_
            refine zz_iadd C ddM_where_84 ?_
            refine zz_goto (tgt := 99) C ddM_where_85 rfl ?_
            refine zz_loc (L1 := []) [] rfl ?_
            exact zBM_where_99 hG C N hD hd E h
        · intro y8 eq6; replace eq6 := eq6.symm; subst eq6
          refine zz_iconst (v := 0) C ddM_where_106 (by decide) ?_
          refine zz_istore (L1 := [(5, .int 0), (0, .ref v0), (2, .int v2), (3, .int (v1 / 100)), (4, .int (v1 - v1 / 100 * 100))]) C ddM_where_107 N (by decide) rfl ?_
          refine zz_loc (L1 := [(0, .ref v0), (2, .int v2), (3, .int (v1 / 100)), (4, .int (v1 - v1 / 100 * 100)), (5, .int 0)]) [1, 2, 3, 4, 0] rfl ?_
          obtain ⟨q9, hq9, h⟩ := bindN h
          refine zLM_where_109 hG C N hD hd 1000000 _ _ hq9 ?_ ?_
          · intro r10 eq9; replace eq9 := eq9.symm; subst eq9
            obtain rfl := Option.some.inj h
            exact E
          · intro y11 eq9; replace eq9 := eq9.symm; subst eq9
            refine zz_iload_n C 1 ddM_where_140 rfl rfl ?_
            refine zz_if_ne (tgt := 148) C ddM_where_141 rfl (fun hc => ?_) (fun hc => ?_)
            · replace h := iteF h hc
              refine zz_iload_n C 1 ddM_where_148 rfl rfl ?_
              refine zz_iconst (v := 1) C ddM_where_149 (by decide) ?_
              refine zz_icmp_ne (tgt := 158) C ddM_where_150 rfl (fun hc => ?_) (fun hc => ?_)
              · replace h := iteF h hc
                refine zz_iload_n C 1 ddM_where_158 rfl rfl ?_
                refine zz_iconst (v := 2) C ddM_where_159 (by decide) ?_
                refine zz_icmp_ne (tgt := 168) C ddM_where_160 rfl (fun hc => ?_) (fun hc => ?_)
                · replace h := iteF h hc
                  refine zz_aload_n C 0 ddM_where_168 rfl rfl ?_
                  obtain ⟨h12, h⟩ := gdN h
                  obtain ⟨h13, h⟩ := gdN h
                  refine zz_getr C ddM_where_169 fl_M_19 rfl h12 (of_decide_eq_true h13) ?_
                  refine zz_iconst (v := 3) C ddM_where_172 (by decide) ?_
                  obtain ⟨h14, h⟩ := gdN h
                  refine zz_iaload C ddM_where_173 h14 ?_
                  refine zz_aload_n C 0 ddM_where_174 rfl rfl ?_
                  obtain ⟨h15, h⟩ := gdN h
                  refine zz_getr C ddM_where_175 fl_M_31 rfl h12 (of_decide_eq_true h15) ?_
                  refine zz_iload C 3 ddM_where_178 rfl ?_
                  refine zz_iload_n C 2 ddM_where_180 rfl rfl ?_
                  obtain ⟨q16, hq16, h⟩ := bindN h
                  refine zz_callS0 (As := [.int y11.1, .int (v1 / 100)]) C ddM_where_181 wd_1425 my_M_boxAt mv_M_boxAt (xM_boxAt hG (d - 1) (by omega) hq16) (by omega) rfl rfl (Nat.le_of_ble_eq_true rfl) ?_
                  obtain ⟨h17, h⟩ := gdN h
                  refine zz_iaload C ddM_where_184 h17 ?_
                  refine zz_isub C ddM_where_185 ?_
                  refine zz_loc (L1 := []) [] rfl ?_
                  exact zBM_where_186 hG C N hD hd E h
                · replace h := iteT h hc
                  refine zz_iload C 3 ddM_where_163 rfl ?_
                  refine zz_goto (tgt := 186) C ddM_where_165 rfl ?_
                  refine zz_loc (L1 := []) [] rfl ?_
                  exact zBM_where_186 hG C N hD hd E h
              · replace h := iteT h hc
                refine zz_iload C 4 ddM_where_153 rfl ?_
                refine zz_goto (tgt := 186) C ddM_where_155 rfl ?_
                refine zz_loc (L1 := []) [] rfl ?_
                exact zBM_where_186 hG C N hD hd E h
            · replace h := iteT h hc
              refine zz_iconst (v := 4) C ddM_where_144 (by decide) ?_
              refine zz_goto (tgt := 186) C ddM_where_145 rfl ?_
              refine zz_loc (L1 := []) [] rfl ?_
              exact zBM_where_186 hG C N hD hd E h
      · replace h := iteF h hc
        refine zz_iload_n C 4 ddM_where_38 rfl rfl ?_
        refine zz_if_ne (tgt := 46) C ddM_where_39 rfl (fun hc => ?_) (fun hc => ?_)
        · replace h := iteF h hc
          refine zz_iconst (v := (-1)) C ddM_where_46 (by decide) ?_
          refine zz_loc (L1 := []) [] rfl ?_
          exact zBM_where_47 hG C N hD hd E h
        · replace h := iteT h hc
          refine zz_iconst (v := 0) C ddM_where_42 (by decide) ?_
          refine zz_goto (tgt := 47) C ddM_where_43 rfl ?_
          refine zz_loc (L1 := []) [] rfl ?_
          exact zBM_where_47 hG C N hD hd E h
    · replace h := iteT h hc
      refine zz_loc (L1 := []) [] rfl ?_
      exact zBM_where_17 hG C N hD hd E h
theorem ddM_series_0 : decode cM_series 0 = .ok (.aload_n 0, 1) := by decide +kernel
theorem ddM_series_1 : decode cM_series 1 = .ok (.iload_n 1, 1) := by decide +kernel
theorem ddM_series_2 : decode cM_series 2 = .ok (.invokevirtual 260, 3) := by decide +kernel
theorem ddM_series_5 : decode cM_series 5 = .ok (.ifCond .eq 21, 3) := by decide +kernel
theorem ddM_series_8 : decode cM_series 8 = .ok (.aload_n 0, 1) := by decide +kernel
theorem ddM_series_9 : decode cM_series 9 = .ok (.iload_n 2, 1) := by decide +kernel
theorem ddM_series_10 : decode cM_series 10 = .ok (.invokevirtual 312, 3) := by decide +kernel
theorem ddM_series_13 : decode cM_series 13 = .ok (.ifCond .eq 13, 3) := by decide +kernel
theorem ddM_series_16 : decode cM_series 16 = .ok (.iload_n 3, 1) := by decide +kernel
theorem ddM_series_17 : decode cM_series 17 = .ok (.iconst (-1), 1) := by decide +kernel
theorem ddM_series_18 : decode cM_series 18 = .ok (.bipush 99, 2) := by decide +kernel
theorem ddM_series_20 : decode cM_series 20 = .ok (.invokestatic 75, 3) := by decide +kernel
theorem ddM_series_23 : decode cM_series 23 = .ok (.ifCond .ne 5, 3) := by decide +kernel
theorem ddM_series_26 : decode cM_series 26 = .ok (.iconst (-1), 1) := by decide +kernel
theorem ddM_series_27 : decode cM_series 27 = .ok (.ireturn, 1) := by decide +kernel
theorem ddM_series_28 : decode cM_series 28 = .ok (.aload_n 0, 1) := by decide +kernel
theorem ddM_series_29 : decode cM_series 29 = .ok (.iconst 0, 1) := by decide +kernel
theorem ddM_series_30 : decode cM_series 30 = .ok (.invokevirtual 351, 3) := by decide +kernel
theorem ddM_series_33 : decode cM_series 33 = .ok (.iconst 0, 1) := by decide +kernel
theorem ddM_series_34 : decode cM_series 34 = .ok (.istore 4, 2) := by decide +kernel
theorem ddM_series_36 : decode cM_series 36 = .ok (.aload_n 0, 1) := by decide +kernel
theorem ddM_series_37 : decode cM_series 37 = .ok (.iload_n 1, 1) := by decide +kernel
theorem ddM_series_38 : decode cM_series 38 = .ok (.aload_n 0, 1) := by decide +kernel
theorem ddM_series_39 : decode cM_series 39 = .ok (.iload_n 2, 1) := by decide +kernel
theorem ddM_series_40 : decode cM_series 40 = .ok (.invokevirtual 263, 3) := by decide +kernel
theorem ddM_series_43 : decode cM_series 43 = .ok (.invokevirtual 275, 3) := by decide +kernel
theorem ddM_series_46 : decode cM_series 46 = .ok (.istore 5, 2) := by decide +kernel
theorem ddM_series_48 : decode cM_series 48 = .ok (.iload 5, 2) := by decide +kernel
theorem ddM_series_50 : decode cM_series 50 = .ok (.iconst (-1), 1) := by decide +kernel
theorem ddM_series_51 : decode cM_series 51 = .ok (.if_icmp .eq 27, 3) := by decide +kernel
theorem ddM_series_54 : decode cM_series 54 = .ok (.iload 4, 2) := by decide +kernel
theorem ddM_series_56 : decode cM_series 56 = .ok (.iload_n 3, 1) := by decide +kernel
theorem ddM_series_57 : decode cM_series 57 = .ok (.if_icmp .eq 21, 3) := by decide +kernel
theorem ddM_series_60 : decode cM_series 60 = .ok (.iinc 4 1, 3) := by decide +kernel
theorem ddM_series_63 : decode cM_series 63 = .ok (.aload_n 0, 1) := by decide +kernel
theorem ddM_series_64 : decode cM_series 64 = .ok (.iload_n 1, 1) := by decide +kernel
theorem ddM_series_65 : decode cM_series 65 = .ok (.aload_n 0, 1) := by decide +kernel
theorem ddM_series_66 : decode cM_series 66 = .ok (.iload_n 2, 1) := by decide +kernel
theorem ddM_series_67 : decode cM_series 67 = .ok (.invokevirtual 263, 3) := by decide +kernel
theorem ddM_series_70 : decode cM_series 70 = .ok (.invokevirtual 275, 3) := by decide +kernel
theorem ddM_series_73 : decode cM_series 73 = .ok (.istore 5, 2) := by decide +kernel
theorem ddM_series_75 : decode cM_series 75 = .ok (.goto (-27), 3) := by decide +kernel
theorem ddM_series_78 : decode cM_series 78 = .ok (.aload_n 0, 1) := by decide +kernel
theorem ddM_series_79 : decode cM_series 79 = .ok (.iconst 0, 1) := by decide +kernel
theorem ddM_series_80 : decode cM_series 80 = .ok (.invokevirtual 354, 3) := by decide +kernel
theorem ddM_series_83 : decode cM_series 83 = .ok (.iload_n 3, 1) := by decide +kernel
theorem ddM_series_84 : decode cM_series 84 = .ok (.iconst (-1), 1) := by decide +kernel
theorem ddM_series_85 : decode cM_series 85 = .ok (.if_icmp .ne 8, 3) := by decide +kernel
theorem ddM_series_88 : decode cM_series 88 = .ok (.iload 4, 2) := by decide +kernel
theorem ddM_series_90 : decode cM_series 90 = .ok (.goto 5, 3) := by decide +kernel
theorem ddM_series_93 : decode cM_series 93 = .ok (.iload 5, 2) := by decide +kernel
theorem ddM_series_95 : decode cM_series 95 = .ok (.ireturn, 1) := by decide +kernel
set_option maxHeartbeats 2000000 in
theorem zBM_series_95 {G : GXM} {X : CxM} (hG : GokM G) (C : CoM G X cM_series "HomeFreedModel") (N : mLM X = 6) {d : Nat} (hD : dpM X = d) (hd : 8 ≤ d)  {q : Int32 × Mem} (E : EnM G X (some .int) (some (.int q.1)) q.2 0 0) {w0 : Int32} {M : Mem} (h : BM_series_95 w0 M = some q) : ZM G X 95 [] [.int w0] M 0 0 := by
  unfold BM_series_95 at h
  obtain rfl := Option.some.inj h
  exact zz_iret C E ddM_series_95
set_option maxHeartbeats 2000000 in
theorem zBM_series_78 {G : GXM} {X : CxM} (hG : GokM G) (C : CoM G X cM_series "HomeFreedModel") (N : mLM X = 6) {d : Nat} (hD : dpM X = d) (hd : 8 ≤ d)  {q : Int32 × Mem} (E : EnM G X (some .int) (some (.int q.1)) q.2 0 0) {v0 : Nat} {v3 : Int32} {v4 : Int32} {v5 : Int32} {M : Mem} (h : BM_series_78 v0 v3 v4 v5 M = some q) : ZM G X 78 [(0, .ref v0), (3, .int v3), (4, .int v4), (5, .int v5)] [] M 0 0 := by
  unfold BM_series_78 at h
  refine zz_aload_n C 0 ddM_series_78 rfl rfl ?_
  refine zz_iconst (v := 0) C ddM_series_79 (by decide) ?_
  obtain ⟨h2, h⟩ := gdN h
  obtain ⟨q1, hq1, h⟩ := bindN h
  refine zz_callV0 (As := [.int 0]) C ddM_series_80 wd_1678 my_M_takeBack mv_M_takeBack ⟨_, rfl, rfl⟩ (xM_takeBack hG (d - 1) (by omega) hq1) (by omega) h2 rfl rfl (Nat.le_of_ble_eq_true rfl) ?_
  refine zz_iload_n C 1 ddM_series_83 rfl rfl ?_
  refine zz_iconst (v := (-1)) C ddM_series_84 (by decide) ?_
  refine zz_icmp_ne (tgt := 93) C ddM_series_85 rfl (fun hc => ?_) (fun hc => ?_)
  · replace h := iteF h hc
    refine zz_iload C 3 ddM_series_93 rfl ?_
    refine zz_loc (L1 := []) [] rfl ?_
    exact zBM_series_95 hG C N hD hd E h
  · replace h := iteT h hc
    refine zz_iload C 2 ddM_series_88 rfl ?_
    refine zz_goto (tgt := 95) C ddM_series_90 rfl ?_
    refine zz_loc (L1 := []) [] rfl ?_
    exact zBM_series_95 hG C N hD hd E h
set_option maxHeartbeats 2000000 in
theorem zBM_series_48 {G : GXM} {X : CxM} (hG : GokM G) (C : CoM G X cM_series "HomeFreedModel") (N : mLM X = 6) {d : Nat} (hD : dpM X = d) (hd : 8 ≤ d) {v0 : Nat} {v1 : Int32} {v2 : Int32} {v3 : Int32} {K : Nat → Int32 → Int32 → Int32 → Int32 → Int32 → Mem → Option ((Int32 × Int32 × Mem))} {q : (Int32 × Int32 × Mem)} (hK : ∀ (v4 : Int32) (v5 : Int32) (M : Mem), K v0 v1 v2 v3 v4 v5 M = some q → ZM G X 48 [(0, .ref v0), (1, .int v1), (2, .int v2), (3, .int v3), (4, .int v4), (5, .int v5)] [] M 0 0) (hx0 : ∀ y : Int32 × Int32 × Mem, q = y → ZM G X 78 [(0, .ref v0), (3, .int v3), (4, .int y.1), (5, .int y.2.1)] [] y.2.2 0 0) {v4 : Int32} {v5 : Int32} {M : Mem} (h : BM_series_48 K v0 v1 v2 v3 v4 v5 M = some q) : ZM G X 48 [(0, .ref v0), (1, .int v1), (2, .int v2), (3, .int v3), (4, .int v4), (5, .int v5)] [] M 0 0 := by
  unfold BM_series_48 at h
  refine zz_iload C 5 ddM_series_48 rfl ?_
  refine zz_iconst (v := (-1)) C ddM_series_50 (by decide) ?_
  refine zz_icmp_eq (tgt := 78) C ddM_series_51 rfl (fun hc => ?_) (fun hc => ?_)
  · replace h := iteT h hc
    refine zz_loc (L1 := [(0, .ref v0), (3, .int v3), (4, .int v4), (5, .int v5)]) [0, 3, 4, 5] rfl ?_
    exact hx0 _ (Option.some.inj h).symm
  · replace h := iteF h hc
    refine zz_iload C 4 ddM_series_54 rfl ?_
    refine zz_iload_n C 3 ddM_series_56 rfl rfl ?_
    refine zz_icmp_eq (tgt := 78) C ddM_series_57 rfl (fun hc => ?_) (fun hc => ?_)
    · replace h := iteT h hc
      refine zz_loc (L1 := [(0, .ref v0), (3, .int v3), (4, .int v4), (5, .int v5)]) [0, 3, 4, 5] rfl ?_
      exact hx0 _ (Option.some.inj h).symm
    · replace h := iteF h hc
      refine zz_iinc (v := v4 + 1) (L1 := [(4, .int (v4 + 1)), (0, .ref v0), (1, .int v1), (2, .int v2), (3, .int v3), (5, .int v5)]) C 4 ddM_series_60 rfl rfl N (by decide) rfl ?_
      refine zz_aload_n C 1 ddM_series_63 rfl rfl ?_
      refine zz_iload_n C 2 ddM_series_64 rfl rfl ?_
      refine zz_aload_n C 1 ddM_series_65 rfl rfl ?_
      refine zz_iload_n C 3 ddM_series_66 rfl rfl ?_
      obtain ⟨h2, h⟩ := gdN h
      obtain ⟨q1, hq1, h⟩ := bindN h
      refine zz_callV0 (As := [.int v2]) C ddM_series_67 wd_1459 my_M_classFor mv_M_classFor ⟨_, rfl, rfl⟩ (xM_classFor hG (d - 1) (by omega) hq1) (by omega) h2 rfl rfl (Nat.le_of_ble_eq_true rfl) ?_
      obtain ⟨h4, h⟩ := gdN h
      obtain ⟨q3, hq3, h⟩ := bindN h
      refine zz_callV0 (As := [.int v1, .int q1.1]) C ddM_series_70 wd_1483 my_M_getNow mv_M_getNow ⟨_, rfl, rfl⟩ (xM_getNow hG (d - 1) (by omega) hq3) (by omega) h4 rfl rfl (Nat.le_of_ble_eq_true rfl) ?_
      refine zz_istore (L1 := [(5, .int q3.1), (4, .int (v4 + 1)), (0, .ref v0), (1, .int v1), (2, .int v2), (3, .int v3)]) C ddM_series_73 N (by decide) rfl ?_
      refine zz_goto (tgt := 48) C ddM_series_75 rfl ?_
      refine zz_loc (L1 := [(0, .ref v0), (1, .int v1), (2, .int v2), (3, .int v3), (4, .int (v4 + 1)), (5, .int q3.1)]) [2, 3, 4, 5, 1, 0] rfl ?_
      exact hK _ _ _ h
set_option maxHeartbeats 2000000 in
theorem zLM_series_48 {G : GXM} {X : CxM} (hG : GokM G) (C : CoM G X cM_series "HomeFreedModel") (N : mLM X = 6) {d : Nat} (hD : dpM X = d) (hd : 8 ≤ d) {v0 : Nat} {v1 : Int32} {v2 : Int32} {v3 : Int32} {q : (Int32 × Int32 × Mem)} : ∀ (f : Nat) (v4 : Int32) (v5 : Int32) (M : Mem), LM_series_48 f v0 v1 v2 v3 v4 v5 M = some q → (hx0 : ∀ y : Int32 × Int32 × Mem, q = y → ZM G X 78 [(0, .ref v0), (3, .int v3), (4, .int y.1), (5, .int y.2.1)] [] y.2.2 0 0) → ZM G X 48 [(0, .ref v0), (1, .int v1), (2, .int v2), (3, .int v3), (4, .int v4), (5, .int v5)] [] M 0 0 := by
  intro f
  induction f with
  | zero => intro v4 v5 M h; cases h
  | succ f ih =>
    intro v4 v5 M h hx0
    exact zBM_series_48 hG C N hD hd (K := LM_series_48 f) (q := q) (fun v4 v5 M h => ih v4 v5 M h hx0) hx0 h
set_option maxHeartbeats 2000000 in
theorem zBM_series_26 {G : GXM} {X : CxM} (hG : GokM G) (C : CoM G X cM_series "HomeFreedModel") (N : mLM X = 6) {d : Nat} (hD : dpM X = d) (hd : 8 ≤ d)  {q : Int32 × Mem} (E : EnM G X (some .int) (some (.int q.1)) q.2 0 0) {M : Mem} (h : BM_series_26 M = some q) : ZM G X 26 [] [] M 0 0 := by
  unfold BM_series_26 at h
  refine zz_iconst (v := (-1)) C ddM_series_26 (by decide) ?_
  obtain rfl := Option.some.inj h
  exact zz_iret C E ddM_series_27
set_option maxHeartbeats 2000000 in
theorem xM_series {G : GXM} {l : Launch} (hG : GokM G) (d : Nat) (hd : 8 ≤ d) {v0 : Nat} {v1 : Int32} {v2 : Int32} {v3 : Int32} {M : Mem} {q : Int32 × Mem} (h : fM_series v0 v1 v2 v3 M = some q) : ExM G l d 0 0 yM_series cM_series 6 (some .int) [.ref v0, .int v1, .int v2, .int v3] M (some (.int q.1)) q.2 := by
  refine ex_of hG (by decide +kernel) (Nat.le_of_ble_eq_true rfl) ?_
  intro X hl C E N hD hn
  show ZM G X 0 [(0, .ref v0), (1, .int v1), (2, .int v2), (3, .int v3)] [] M 0 0
  unfold fM_series at h
  refine zz_aload_n C 0 ddM_series_0 rfl rfl ?_
  refine zz_iload_n C 1 ddM_series_1 rfl rfl ?_
  obtain ⟨h2, h⟩ := gdN h
  obtain ⟨q1, hq1, h⟩ := bindN h
  refine zz_callV0 (As := [.int v1]) C ddM_series_2 wd_1463 my_M_doesLive mv_M_doesLive ⟨_, rfl, rfl⟩ (xM_doesLive hG (d - 1) (by omega) hq1) (by omega) h2 rfl rfl (Nat.le_of_ble_eq_true rfl) ?_
  refine zz_if_eq (tgt := 26) C ddM_series_5 rfl (fun hc => ?_) (fun hc => ?_)
  · replace h := iteT h hc
    refine zz_loc (L1 := []) [] rfl ?_
    exact zBM_series_26 hG C N hD hd E h
  · replace h := iteF h hc
    refine zz_aload_n C 0 ddM_series_8 rfl rfl ?_
    refine zz_iload_n C 2 ddM_series_9 rfl rfl ?_
    obtain ⟨h4, h⟩ := gdN h
    obtain ⟨q3, hq3, h⟩ := bindN h
    refine zz_callV0 (As := [.int v2]) C ddM_series_10 wd_1455 my_M_isAsked mv_M_isAsked ⟨_, rfl, rfl⟩ (xM_isAsked hG (d - 1) (by omega) hq3) (by omega) h4 rfl rfl (Nat.le_of_ble_eq_true rfl) ?_
    refine zz_if_eq (tgt := 26) C ddM_series_13 rfl (fun hc => ?_) (fun hc => ?_)
    · replace h := iteT h hc
      refine zz_loc (L1 := []) [] rfl ?_
      exact zBM_series_26 hG C N hD hd E h
    · replace h := iteF h hc
      refine zz_iload_n C 3 ddM_series_16 rfl rfl ?_
      refine zz_iconst (v := (-1)) C ddM_series_17 (by decide) ?_
      refine zz_bipush (v := 99) C ddM_series_18 (by decide) ?_
      obtain ⟨q5, hq5, h⟩ := bindN h
      refine zz_callS0 (As := [.int v3, .int ((-1)), .int 99]) C ddM_series_20 wd_1289 my_M_in mv_M_in (xM_in hG (d - 1) (by omega) hq5) (by omega) rfl rfl (Nat.le_of_ble_eq_true rfl) ?_
      refine zz_if_ne (tgt := 28) C ddM_series_23 rfl (fun hc => ?_) (fun hc => ?_)
      · replace h := iteF h hc
        refine zz_aload_n C 0 ddM_series_28 rfl rfl ?_
        refine zz_iconst (v := 0) C ddM_series_29 (by decide) ?_
        obtain ⟨h7, h⟩ := gdN h
        obtain ⟨q6, hq6, h⟩ := bindN h
        refine zz_callV0 (As := [.int 0]) C ddM_series_30 wd_1674 my_M_putAside mv_M_putAside ⟨_, rfl, rfl⟩ (xM_putAside hG (d - 1) (by omega) hq6) (by omega) h7 rfl rfl (Nat.le_of_ble_eq_true rfl) ?_
        refine zz_iconst (v := 0) C ddM_series_33 (by decide) ?_
        refine zz_istore (L1 := [(4, .int 0), (0, .ref v0), (1, .int v1), (2, .int v2), (3, .int v3)]) C ddM_series_34 N (by decide) rfl ?_
        refine zz_aload_n C 1 ddM_series_36 rfl rfl ?_
        refine zz_iload_n C 2 ddM_series_37 rfl rfl ?_
        refine zz_aload_n C 1 ddM_series_38 rfl rfl ?_
        refine zz_iload_n C 3 ddM_series_39 rfl rfl ?_
        obtain ⟨h9, h⟩ := gdN h
        obtain ⟨q8, hq8, h⟩ := bindN h
        refine zz_callV0 (As := [.int v2]) C ddM_series_40 wd_1459 my_M_classFor mv_M_classFor ⟨_, rfl, rfl⟩ (xM_classFor hG (d - 1) (by omega) hq8) (by omega) h9 rfl rfl (Nat.le_of_ble_eq_true rfl) ?_
        obtain ⟨h11, h⟩ := gdN h
        obtain ⟨q10, hq10, h⟩ := bindN h
        refine zz_callV0 (As := [.int v1, .int q8.1]) C ddM_series_43 wd_1483 my_M_getNow mv_M_getNow ⟨_, rfl, rfl⟩ (xM_getNow hG (d - 1) (by omega) hq10) (by omega) h11 rfl rfl (Nat.le_of_ble_eq_true rfl) ?_
        refine zz_istore (L1 := [(5, .int q10.1), (4, .int 0), (0, .ref v0), (1, .int v1), (2, .int v2), (3, .int v3)]) C ddM_series_46 N (by decide) rfl ?_
        refine zz_loc (L1 := [(0, .ref v0), (1, .int v1), (2, .int v2), (3, .int v3), (4, .int 0), (5, .int q10.1)]) [2, 3, 4, 5, 1, 0] rfl ?_
        obtain ⟨q12, hq12, h⟩ := bindN h
        refine zLM_series_48 hG C N hD hd 1000000 _ _ _ hq12 ?_
        · intro y13 eq12; replace eq12 := eq12.symm; subst eq12
          exact zBM_series_78 hG C N hD hd E h
      · replace h := iteT h hc
        refine zz_loc (L1 := []) [] rfl ?_
        exact zBM_series_26 hG C N hD hd E h
theorem ddM_pagesInUse_0 : decode cM_pagesInUse 0 = .ok (.iconst 0, 1) := by decide +kernel
theorem ddM_pagesInUse_1 : decode cM_pagesInUse 1 = .ok (.istore_n 1, 1) := by decide +kernel
theorem ddM_pagesInUse_2 : decode cM_pagesInUse 2 = .ok (.iconst 0, 1) := by decide +kernel
theorem ddM_pagesInUse_3 : decode cM_pagesInUse 3 = .ok (.istore_n 2, 1) := by decide +kernel
theorem ddM_pagesInUse_4 : decode cM_pagesInUse 4 = .ok (.iload_n 2, 1) := by decide +kernel
theorem ddM_pagesInUse_5 : decode cM_pagesInUse 5 = .ok (.aload_n 0, 1) := by decide +kernel
theorem ddM_pagesInUse_6 : decode cM_pagesInUse 6 = .ok (.getfield 19, 3) := by decide +kernel
theorem ddM_pagesInUse_9 : decode cM_pagesInUse 9 = .ok (.iconst 1, 1) := by decide +kernel
theorem ddM_pagesInUse_10 : decode cM_pagesInUse 10 = .ok (.iaload, 1) := by decide +kernel
theorem ddM_pagesInUse_11 : decode cM_pagesInUse 11 = .ok (.if_icmp .ge 26, 3) := by decide +kernel
theorem ddM_pagesInUse_14 : decode cM_pagesInUse 14 = .ok (.iload_n 1, 1) := by decide +kernel
theorem ddM_pagesInUse_15 : decode cM_pagesInUse 15 = .ok (.aload_n 0, 1) := by decide +kernel
theorem ddM_pagesInUse_16 : decode cM_pagesInUse 16 = .ok (.iload_n 2, 1) := by decide +kernel
theorem ddM_pagesInUse_17 : decode cM_pagesInUse 17 = .ok (.iconst 0, 1) := by decide +kernel
theorem ddM_pagesInUse_18 : decode cM_pagesInUse 18 = .ok (.invokevirtual 170, 3) := by decide +kernel
theorem ddM_pagesInUse_21 : decode cM_pagesInUse 21 = .ok (.ifCond .eq 7, 3) := by decide +kernel
theorem ddM_pagesInUse_24 : decode cM_pagesInUse 24 = .ok (.iconst 1, 1) := by decide +kernel
theorem ddM_pagesInUse_25 : decode cM_pagesInUse 25 = .ok (.goto 4, 3) := by decide +kernel
theorem ddM_pagesInUse_28 : decode cM_pagesInUse 28 = .ok (.iconst 0, 1) := by decide +kernel
theorem ddM_pagesInUse_29 : decode cM_pagesInUse 29 = .ok (.iadd, 1) := by decide +kernel
theorem ddM_pagesInUse_30 : decode cM_pagesInUse 30 = .ok (.istore_n 1, 1) := by decide +kernel
theorem ddM_pagesInUse_31 : decode cM_pagesInUse 31 = .ok (.iinc 2 1, 3) := by decide +kernel
theorem ddM_pagesInUse_34 : decode cM_pagesInUse 34 = .ok (.goto (-30), 3) := by decide +kernel
theorem ddM_pagesInUse_37 : decode cM_pagesInUse 37 = .ok (.iload_n 1, 1) := by decide +kernel
theorem ddM_pagesInUse_38 : decode cM_pagesInUse 38 = .ok (.ireturn, 1) := by decide +kernel
set_option maxHeartbeats 2000000 in
theorem zBM_pagesInUse_29 {G : GXM} {X : CxM} (hG : GokM G) (C : CoM G X cM_pagesInUse "HomeFreedModel") (N : mLM X = 3) {d : Nat} (hD : dpM X = d) (hd : 1 ≤ d) {v0 : Nat} {K : Nat → Int32 → Int32 → Mem → Option ((Int32 × Mem))} {q : (Int32 × Mem)} (hK : ∀ (v1 : Int32) (v2 : Int32) (M : Mem), K v0 v1 v2 M = some q → ZM G X 4 [(0, .ref v0), (1, .int v1), (2, .int v2)] [] M 0 0) (hr : ∀ r : Int32 × Mem, q =  r → EnM G X (some .int) (some (.int r.1)) r.2 0 0) {v2 : Int32} {w0 : Int32} {w1 : Int32} {M : Mem} (h : BM_pagesInUse_29 K v0 v2 w0 w1 M = some q) : ZM G X 29 [(0, .ref v0), (2, .int v2)] [.int w1, .int w0] M 0 0 := by
  unfold BM_pagesInUse_29 at h
  refine zz_iadd C ddM_pagesInUse_29 ?_
  refine zz_istore_n (L1 := [(1, .int (w0 + w1)), (0, .ref v0), (2, .int v2)]) C ddM_pagesInUse_30 rfl N (by decide) rfl ?_
  refine zz_iinc (v := v2 + 1) (L1 := [(2, .int (v2 + 1)), (1, .int (w0 + w1)), (0, .ref v0)]) C 2 ddM_pagesInUse_31 rfl rfl N (by decide) rfl ?_
  refine zz_goto (tgt := 4) C ddM_pagesInUse_34 rfl ?_
  refine zz_loc (L1 := [(0, .ref v0), (1, .int (w0 + w1)), (2, .int (v2 + 1))]) [2, 1, 0] rfl ?_
  exact hK _ _ _ h
set_option maxHeartbeats 2000000 in
theorem zBM_pagesInUse_4 {G : GXM} {X : CxM} (hG : GokM G) (C : CoM G X cM_pagesInUse "HomeFreedModel") (N : mLM X = 3) {d : Nat} (hD : dpM X = d) (hd : 1 ≤ d) {v0 : Nat} {K : Nat → Int32 → Int32 → Mem → Option ((Int32 × Mem))} {q : (Int32 × Mem)} (hK : ∀ (v1 : Int32) (v2 : Int32) (M : Mem), K v0 v1 v2 M = some q → ZM G X 4 [(0, .ref v0), (1, .int v1), (2, .int v2)] [] M 0 0) (hr : ∀ r : Int32 × Mem, q =  r → EnM G X (some .int) (some (.int r.1)) r.2 0 0) {v1 : Int32} {v2 : Int32} {M : Mem} (h : BM_pagesInUse_4 K v0 v1 v2 M = some q) : ZM G X 4 [(0, .ref v0), (1, .int v1), (2, .int v2)] [] M 0 0 := by
  unfold BM_pagesInUse_4 at h
  refine zz_iload_n C 2 ddM_pagesInUse_4 rfl rfl ?_
  refine zz_aload_n C 0 ddM_pagesInUse_5 rfl rfl ?_
  obtain ⟨h1, h⟩ := gdN h
  obtain ⟨h2, h⟩ := gdN h
  refine zz_getr C ddM_pagesInUse_6 fl_M_19 rfl h1 (of_decide_eq_true h2) ?_
  refine zz_iconst (v := 1) C ddM_pagesInUse_9 (by decide) ?_
  obtain ⟨h3, h⟩ := gdN h
  refine zz_iaload C ddM_pagesInUse_10 h3 ?_
  refine zz_icmp_ge (tgt := 37) C ddM_pagesInUse_11 rfl (fun hc => ?_) (fun hc => ?_)
  · replace h := iteT h hc
    refine zz_iload_n C 1 ddM_pagesInUse_37 rfl rfl ?_
    exact zz_iret C (hr _ (Option.some.inj h).symm) ddM_pagesInUse_38
  · replace h := iteF h hc
    refine zz_iload_n C 1 ddM_pagesInUse_14 rfl rfl ?_
    refine zz_aload_n C 0 ddM_pagesInUse_15 rfl rfl ?_
    refine zz_iload_n C 2 ddM_pagesInUse_16 rfl rfl ?_
    refine zz_iconst (v := 0) C ddM_pagesInUse_17 (by decide) ?_
    obtain ⟨q4, hq4, h⟩ := bindN h
    refine zz_callV0 (As := [.int v2, .int 0]) C ddM_pagesInUse_18 wd_1378 my_M_of mv_M_of ⟨_, rfl, rfl⟩ (xM_of hG (d - 1) (by omega) hq4) (by omega) h1 rfl rfl (Nat.le_of_ble_eq_true rfl) ?_
    refine zz_if_eq (tgt := 28) C ddM_pagesInUse_21 rfl (fun hc => ?_) (fun hc => ?_)
    · replace h := iteT h hc
      refine zz_iconst (v := 0) C ddM_pagesInUse_28 (by decide) ?_
      refine zz_loc (L1 := [(0, .ref v0), (2, .int v2)]) [0, 2] rfl ?_
      exact zBM_pagesInUse_29 hG C N hD hd hK hr h
    · replace h := iteF h hc
      refine zz_iconst (v := 1) C ddM_pagesInUse_24 (by decide) ?_
      refine zz_goto (tgt := 29) C ddM_pagesInUse_25 rfl ?_
      refine zz_loc (L1 := [(0, .ref v0), (2, .int v2)]) [0, 2] rfl ?_
      exact zBM_pagesInUse_29 hG C N hD hd hK hr h
set_option maxHeartbeats 2000000 in
theorem zLM_pagesInUse_4 {G : GXM} {X : CxM} (hG : GokM G) (C : CoM G X cM_pagesInUse "HomeFreedModel") (N : mLM X = 3) {d : Nat} (hD : dpM X = d) (hd : 1 ≤ d) {v0 : Nat} {q : (Int32 × Mem)} : ∀ (f : Nat) (v1 : Int32) (v2 : Int32) (M : Mem), LM_pagesInUse_4 f v0 v1 v2 M = some q → (hr : ∀ r : Int32 × Mem, q =  r → EnM G X (some .int) (some (.int r.1)) r.2 0 0) → ZM G X 4 [(0, .ref v0), (1, .int v1), (2, .int v2)] [] M 0 0 := by
  intro f
  induction f with
  | zero => intro v1 v2 M h; cases h
  | succ f ih =>
    intro v1 v2 M h hr
    exact zBM_pagesInUse_4 hG C N hD hd (K := LM_pagesInUse_4 f) (q := q) (fun v1 v2 M h => ih v1 v2 M h hr) hr h
set_option maxHeartbeats 2000000 in
theorem xM_pagesInUse {G : GXM} {l : Launch} (hG : GokM G) (d : Nat) (hd : 1 ≤ d) {v0 : Nat} {M : Mem} {q : Int32 × Mem} (h : fM_pagesInUse v0 M = some q) : ExM G l d 0 0 yM_pagesInUse cM_pagesInUse 3 (some .int) [.ref v0] M (some (.int q.1)) q.2 := by
  refine ex_of hG (by decide +kernel) (Nat.le_of_ble_eq_true rfl) ?_
  intro X hl C E N hD hn
  show ZM G X 0 [(0, .ref v0)] [] M 0 0
  unfold fM_pagesInUse at h
  refine zz_iconst (v := 0) C ddM_pagesInUse_0 (by decide) ?_
  refine zz_istore_n (L1 := [(1, .int 0), (0, .ref v0)]) C ddM_pagesInUse_1 rfl N (by decide) rfl ?_
  refine zz_iconst (v := 0) C ddM_pagesInUse_2 (by decide) ?_
  refine zz_istore_n (L1 := [(2, .int 0), (1, .int 0), (0, .ref v0)]) C ddM_pagesInUse_3 rfl N (by decide) rfl ?_
  refine zz_loc (L1 := [(0, .ref v0), (1, .int 0), (2, .int 0)]) [2, 1, 0] rfl ?_
  obtain ⟨q1, hq1, h⟩ := bindN h
  refine zLM_pagesInUse_4 hG C N hD hd 1000000 _ _ _ hq1 ?_
  · intro r2 eq1; replace eq1 := eq1.symm; subst eq1
    obtain rfl := Option.some.inj h
    exact E
theorem ddM_run_0 : decode cM_run 0 = .ok (.aload_n 0, 1) := by decide +kernel
theorem ddM_run_1 : decode cM_run 1 = .ok (.iload_n 1, 1) := by decide +kernel
theorem ddM_run_2 : decode cM_run 2 = .ok (.invokevirtual 321, 3) := by decide +kernel
theorem ddM_run_5 : decode cM_run 5 = .ok (.ifCond .eq 12, 3) := by decide +kernel
theorem ddM_run_8 : decode cM_run 8 = .ok (.iload_n 2, 1) := by decide +kernel
theorem ddM_run_9 : decode cM_run 9 = .ok (.iconst 0, 1) := by decide +kernel
theorem ddM_run_10 : decode cM_run 10 = .ok (.iconst 2, 1) := by decide +kernel
theorem ddM_run_11 : decode cM_run 11 = .ok (.invokestatic 75, 3) := by decide +kernel
theorem ddM_run_14 : decode cM_run 14 = .ok (.ifCond .ne 5, 3) := by decide +kernel
theorem ddM_run_17 : decode cM_run 17 = .ok (.iconst (-1), 1) := by decide +kernel
theorem ddM_run_18 : decode cM_run 18 = .ok (.ireturn, 1) := by decide +kernel
theorem ddM_run_19 : decode cM_run 19 = .ok (.aload_n 0, 1) := by decide +kernel
theorem ddM_run_20 : decode cM_run 20 = .ok (.iconst 0, 1) := by decide +kernel
theorem ddM_run_21 : decode cM_run 21 = .ok (.invokevirtual 351, 3) := by decide +kernel
theorem ddM_run_24 : decode cM_run 24 = .ok (.aload_n 0, 1) := by decide +kernel
theorem ddM_run_25 : decode cM_run 25 = .ok (.iload_n 1, 1) := by decide +kernel
theorem ddM_run_26 : decode cM_run 26 = .ok (.iconst 0, 1) := by decide +kernel
theorem ddM_run_27 : decode cM_run 27 = .ok (.invokevirtual 324, 3) := by decide +kernel
theorem ddM_run_30 : decode cM_run 30 = .ok (.istore_n 3, 1) := by decide +kernel
theorem ddM_run_31 : decode cM_run 31 = .ok (.iload_n 2, 1) := by decide +kernel
theorem ddM_run_32 : decode cM_run 32 = .ok (.ifCond .ne 7, 3) := by decide +kernel
theorem ddM_run_35 : decode cM_run 35 = .ok (.iload_n 3, 1) := by decide +kernel
theorem ddM_run_36 : decode cM_run 36 = .ok (.goto 19, 3) := by decide +kernel
theorem ddM_run_39 : decode cM_run 39 = .ok (.iload_n 2, 1) := by decide +kernel
theorem ddM_run_40 : decode cM_run 40 = .ok (.iconst 1, 1) := by decide +kernel
theorem ddM_run_41 : decode cM_run 41 = .ok (.if_icmp .ne 10, 3) := by decide +kernel
theorem ddM_run_44 : decode cM_run 44 = .ok (.aload_n 0, 1) := by decide +kernel
theorem ddM_run_45 : decode cM_run 45 = .ok (.invokevirtual 360, 3) := by decide +kernel
theorem ddM_run_48 : decode cM_run 48 = .ok (.goto 7, 3) := by decide +kernel
theorem ddM_run_51 : decode cM_run 51 = .ok (.aload_n 0, 1) := by decide +kernel
theorem ddM_run_52 : decode cM_run 52 = .ok (.invokevirtual 338, 3) := by decide +kernel
theorem ddM_run_55 : decode cM_run 55 = .ok (.istore 4, 2) := by decide +kernel
theorem ddM_run_57 : decode cM_run 57 = .ok (.aload_n 0, 1) := by decide +kernel
theorem ddM_run_58 : decode cM_run 58 = .ok (.iconst 0, 1) := by decide +kernel
theorem ddM_run_59 : decode cM_run 59 = .ok (.invokevirtual 354, 3) := by decide +kernel
theorem ddM_run_62 : decode cM_run 62 = .ok (.iload 4, 2) := by decide +kernel
theorem ddM_run_64 : decode cM_run 64 = .ok (.ireturn, 1) := by decide +kernel
set_option maxHeartbeats 2000000 in
theorem zBM_run_55 {G : GXM} {X : CxM} (hG : GokM G) (C : CoM G X cM_run "HomeFreedModel") (N : mLM X = 5) {d : Nat} (hD : dpM X = d) (hd : 11 ≤ d)  {q : Int32 × Mem} (E : EnM G X (some .int) (some (.int q.1)) q.2 0 0) {v0 : Nat} {w0 : Int32} {M : Mem} (h : BM_run_55 v0 w0 M = some q) : ZM G X 55 [(0, .ref v0)] [.int w0] M 0 0 := by
  unfold BM_run_55 at h
  refine zz_istore (L1 := [(4, .int w0), (0, .ref v0)]) C ddM_run_55 N (by decide) rfl ?_
  refine zz_aload_n C 1 ddM_run_57 rfl rfl ?_
  refine zz_iconst (v := 0) C ddM_run_58 (by decide) ?_
  obtain ⟨h2, h⟩ := gdN h
  obtain ⟨q1, hq1, h⟩ := bindN h
  refine zz_callV0 (As := [.int 0]) C ddM_run_59 wd_1678 my_M_takeBack mv_M_takeBack ⟨_, rfl, rfl⟩ (xM_takeBack hG (d - 1) (by omega) hq1) (by omega) h2 rfl rfl (Nat.le_of_ble_eq_true rfl) ?_
  refine zz_iload C 0 ddM_run_62 rfl ?_
  obtain rfl := Option.some.inj h
  exact zz_iret C E ddM_run_64
set_option maxHeartbeats 2000000 in
theorem zBM_run_17 {G : GXM} {X : CxM} (hG : GokM G) (C : CoM G X cM_run "HomeFreedModel") (N : mLM X = 5) {d : Nat} (hD : dpM X = d) (hd : 11 ≤ d)  {q : Int32 × Mem} (E : EnM G X (some .int) (some (.int q.1)) q.2 0 0) {M : Mem} (h : BM_run_17 M = some q) : ZM G X 17 [] [] M 0 0 := by
  unfold BM_run_17 at h
  refine zz_iconst (v := (-1)) C ddM_run_17 (by decide) ?_
  obtain rfl := Option.some.inj h
  exact zz_iret C E ddM_run_18
set_option maxHeartbeats 2000000 in
theorem xM_run {G : GXM} {l : Launch} (hG : GokM G) (d : Nat) (hd : 11 ≤ d) {v0 : Nat} {v1 : Int32} {v2 : Int32} {M : Mem} {q : Int32 × Mem} (h : fM_run v0 v1 v2 M = some q) : ExM G l d 0 0 yM_run cM_run 5 (some .int) [.ref v0, .int v1, .int v2] M (some (.int q.1)) q.2 := by
  refine ex_of hG (by decide +kernel) (Nat.le_of_ble_eq_true rfl) ?_
  intro X hl C E N hD hn
  show ZM G X 0 [(0, .ref v0), (1, .int v1), (2, .int v2)] [] M 0 0
  unfold fM_run at h
  refine zz_aload_n C 0 ddM_run_0 rfl rfl ?_
  refine zz_iload_n C 1 ddM_run_1 rfl rfl ?_
  obtain ⟨h2, h⟩ := gdN h
  obtain ⟨q1, hq1, h⟩ := bindN h
  refine zz_callV0 (As := [.int v1]) C ddM_run_2 wd_1587 my_M_isScript mv_M_isScript ⟨_, rfl, rfl⟩ (xM_isScript hG (d - 1) (by omega) hq1) (by omega) h2 rfl rfl (Nat.le_of_ble_eq_true rfl) ?_
  refine zz_if_eq (tgt := 17) C ddM_run_5 rfl (fun hc => ?_) (fun hc => ?_)
  · replace h := iteT h hc
    refine zz_loc (L1 := []) [] rfl ?_
    exact zBM_run_17 hG C N hD hd E h
  · replace h := iteF h hc
    refine zz_iload_n C 2 ddM_run_8 rfl rfl ?_
    refine zz_iconst (v := 0) C ddM_run_9 (by decide) ?_
    refine zz_iconst (v := 2) C ddM_run_10 (by decide) ?_
    obtain ⟨q3, hq3, h⟩ := bindN h
    refine zz_callS0 (As := [.int v2, .int 0, .int 2]) C ddM_run_11 wd_1289 my_M_in mv_M_in (xM_in hG (d - 1) (by omega) hq3) (by omega) rfl rfl (Nat.le_of_ble_eq_true rfl) ?_
    refine zz_if_ne (tgt := 19) C ddM_run_14 rfl (fun hc => ?_) (fun hc => ?_)
    · replace h := iteF h hc
      refine zz_aload_n C 0 ddM_run_19 rfl rfl ?_
      refine zz_iconst (v := 0) C ddM_run_20 (by decide) ?_
      obtain ⟨h5, h⟩ := gdN h
      obtain ⟨q4, hq4, h⟩ := bindN h
      refine zz_callV0 (As := [.int 0]) C ddM_run_21 wd_1674 my_M_putAside mv_M_putAside ⟨_, rfl, rfl⟩ (xM_putAside hG (d - 1) (by omega) hq4) (by omega) h5 rfl rfl (Nat.le_of_ble_eq_true rfl) ?_
      refine zz_aload_n C 0 ddM_run_24 rfl rfl ?_
      refine zz_iload_n C 1 ddM_run_25 rfl rfl ?_
      refine zz_iconst (v := 0) C ddM_run_26 (by decide) ?_
      obtain ⟨h7, h⟩ := gdN h
      obtain ⟨q6, hq6, h⟩ := bindN h
      refine zz_callV0 (As := [.int v1, .int 0]) C ddM_run_27 wd_1591 my_M_runScript mv_M_runScript ⟨_, rfl, rfl⟩ (xM_runScript hG (d - 1) (by omega) hq6) (by omega) h7 rfl rfl (Nat.le_of_ble_eq_true rfl) ?_
      refine zz_istore_n (L1 := [(3, .int q6.1), (0, .ref v0), (1, .int v1), (2, .int v2)]) C ddM_run_30 rfl N (by decide) rfl ?_
      refine zz_iload_n C 3 ddM_run_31 rfl rfl ?_
      refine zz_if_ne (tgt := 39) C ddM_run_32 rfl (fun hc => ?_) (fun hc => ?_)
      · replace h := iteF h hc
        refine zz_iload_n C 3 ddM_run_39 rfl rfl ?_
        refine zz_iconst (v := 1) C ddM_run_40 (by decide) ?_
        refine zz_icmp_ne (tgt := 51) C ddM_run_41 rfl (fun hc => ?_) (fun hc => ?_)
        · replace h := iteF h hc
          refine zz_aload_n C 1 ddM_run_51 rfl rfl ?_
          obtain ⟨h9, h⟩ := gdN h
          obtain ⟨q8, hq8, h⟩ := bindN h
          refine zz_callV0 (As := []) C ddM_run_52 wd_1633 my_M_heldMany mv_M_heldMany ⟨_, rfl, rfl⟩ (xM_heldMany hG (d - 1) (by omega) hq8) (by omega) h9 rfl rfl (Nat.le_of_ble_eq_true rfl) ?_
          refine zz_loc (L1 := [(0, .ref v0)]) [1] rfl ?_
          exact zBM_run_55 hG C N hD hd E h
        · replace h := iteT h hc
          refine zz_aload_n C 1 ddM_run_44 rfl rfl ?_
          obtain ⟨h11, h⟩ := gdN h
          obtain ⟨q10, hq10, h⟩ := bindN h
          refine zz_callV0 (As := []) C ddM_run_45 wd_1698 my_M_pagesInUse mv_M_pagesInUse ⟨_, rfl, rfl⟩ (xM_pagesInUse hG (d - 1) (by omega) hq10) (by omega) h11 rfl rfl (Nat.le_of_ble_eq_true rfl) ?_
          refine zz_goto (tgt := 55) C ddM_run_48 rfl ?_
          refine zz_loc (L1 := [(0, .ref v0)]) [1] rfl ?_
          exact zBM_run_55 hG C N hD hd E h
      · replace h := iteT h hc
        refine zz_iload_n C 0 ddM_run_35 rfl rfl ?_
        refine zz_goto (tgt := 55) C ddM_run_36 rfl ?_
        refine zz_loc (L1 := [(0, .ref v0)]) [1] rfl ?_
        exact zBM_run_55 hG C N hD hd E h
    · replace h := iteT h hc
      refine zz_loc (L1 := []) [] rfl ?_
      exact zBM_run_17 hG C N hD hd E h
theorem ddM_isFew_0 : decode cM_isFew 0 = .ok (.aload_n 0, 1) := by decide +kernel
theorem ddM_isFew_1 : decode cM_isFew 1 = .ok (.getfield 28, 3) := by decide +kernel
theorem ddM_isFew_4 : decode cM_isFew 4 = .ok (.iload_n 1, 1) := by decide +kernel
theorem ddM_isFew_5 : decode cM_isFew 5 = .ok (.iaload, 1) := by decide +kernel
theorem ddM_isFew_6 : decode cM_isFew 6 = .ok (.bipush 6, 2) := by decide +kernel
theorem ddM_isFew_8 : decode cM_isFew 8 = .ok (.if_icmp .gt 7, 3) := by decide +kernel
theorem ddM_isFew_11 : decode cM_isFew 11 = .ok (.iconst 1, 1) := by decide +kernel
theorem ddM_isFew_12 : decode cM_isFew 12 = .ok (.goto 4, 3) := by decide +kernel
theorem ddM_isFew_15 : decode cM_isFew 15 = .ok (.iconst 0, 1) := by decide +kernel
theorem ddM_isFew_16 : decode cM_isFew 16 = .ok (.istore_n 2, 1) := by decide +kernel
theorem ddM_isFew_17 : decode cM_isFew 17 = .ok (.iconst 0, 1) := by decide +kernel
theorem ddM_isFew_18 : decode cM_isFew 18 = .ok (.istore_n 3, 1) := by decide +kernel
theorem ddM_isFew_19 : decode cM_isFew 19 = .ok (.iload_n 3, 1) := by decide +kernel
theorem ddM_isFew_20 : decode cM_isFew 20 = .ok (.aload_n 0, 1) := by decide +kernel
theorem ddM_isFew_21 : decode cM_isFew 21 = .ok (.getfield 28, 3) := by decide +kernel
theorem ddM_isFew_24 : decode cM_isFew 24 = .ok (.iload_n 1, 1) := by decide +kernel
theorem ddM_isFew_25 : decode cM_isFew 25 = .ok (.iaload, 1) := by decide +kernel
theorem ddM_isFew_26 : decode cM_isFew 26 = .ok (.if_icmp .ge 30, 3) := by decide +kernel
theorem ddM_isFew_29 : decode cM_isFew 29 = .ok (.iload_n 2, 1) := by decide +kernel
theorem ddM_isFew_30 : decode cM_isFew 30 = .ok (.ifCond .eq 18, 3) := by decide +kernel
theorem ddM_isFew_33 : decode cM_isFew 33 = .ok (.aload_n 0, 1) := by decide +kernel
theorem ddM_isFew_34 : decode cM_isFew 34 = .ok (.iload_n 1, 1) := by decide +kernel
theorem ddM_isFew_35 : decode cM_isFew 35 = .ok (.iload_n 3, 1) := by decide +kernel
theorem ddM_isFew_36 : decode cM_isFew 36 = .ok (.iconst 0, 1) := by decide +kernel
theorem ddM_isFew_37 : decode cM_isFew 37 = .ok (.invokevirtual 256, 3) := by decide +kernel
theorem ddM_isFew_40 : decode cM_isFew 40 = .ok (.iconst 5, 1) := by decide +kernel
theorem ddM_isFew_41 : decode cM_isFew 41 = .ok (.if_icmp .ge 7, 3) := by decide +kernel
theorem ddM_isFew_44 : decode cM_isFew 44 = .ok (.iconst 1, 1) := by decide +kernel
theorem ddM_isFew_45 : decode cM_isFew 45 = .ok (.goto 4, 3) := by decide +kernel
theorem ddM_isFew_48 : decode cM_isFew 48 = .ok (.iconst 0, 1) := by decide +kernel
theorem ddM_isFew_49 : decode cM_isFew 49 = .ok (.istore_n 2, 1) := by decide +kernel
theorem ddM_isFew_50 : decode cM_isFew 50 = .ok (.iinc 3 1, 3) := by decide +kernel
theorem ddM_isFew_53 : decode cM_isFew 53 = .ok (.goto (-34), 3) := by decide +kernel
theorem ddM_isFew_56 : decode cM_isFew 56 = .ok (.iload_n 2, 1) := by decide +kernel
theorem ddM_isFew_57 : decode cM_isFew 57 = .ok (.ireturn, 1) := by decide +kernel
set_option maxHeartbeats 2000000 in
theorem zBM_isFew_49 {G : GXM} {X : CxM} (hG : GokM G) (C : CoM G X cM_isFew "HomeFreedModel") (N : mLM X = 4) {d : Nat} (hD : dpM X = d) (hd : 1 ≤ d) {v0 : Nat} {v1 : Int32} {K : Nat → Int32 → Int32 → Int32 → Mem → Option ((Int32 × Mem))} {q : (Int32 × Mem)} (hK : ∀ (v2 : Int32) (v3 : Int32) (M : Mem), K v0 v1 v2 v3 M = some q → ZM G X 19 [(0, .ref v0), (1, .int v1), (2, .int v2), (3, .int v3)] [] M 0 0) (hr : ∀ r : Int32 × Mem, q =  r → EnM G X (some .boolean) (some (.int r.1)) r.2 0 0) {v3 : Int32} {w0 : Int32} {M : Mem} (h : BM_isFew_49 K v0 v1 v3 w0 M = some q) : ZM G X 49 [(0, .ref v0), (1, .int v1), (3, .int v3)] [.int w0] M 0 0 := by
  unfold BM_isFew_49 at h
  refine zz_istore_n (L1 := [(2, .int w0), (0, .ref v0), (1, .int v1), (3, .int v3)]) C ddM_isFew_49 rfl N (by decide) rfl ?_
  refine zz_iinc (v := v3 + 1) (L1 := [(3, .int (v3 + 1)), (2, .int w0), (0, .ref v0), (1, .int v1)]) C 3 ddM_isFew_50 rfl rfl N (by decide) rfl ?_
  refine zz_goto (tgt := 19) C ddM_isFew_53 rfl ?_
  refine zz_loc (L1 := [(0, .ref v0), (1, .int v1), (2, .int w0), (3, .int (v3 + 1))]) [2, 3, 1, 0] rfl ?_
  exact hK _ _ _ h
set_option maxHeartbeats 2000000 in
theorem zBM_isFew_48 {G : GXM} {X : CxM} (hG : GokM G) (C : CoM G X cM_isFew "HomeFreedModel") (N : mLM X = 4) {d : Nat} (hD : dpM X = d) (hd : 1 ≤ d) {v0 : Nat} {v1 : Int32} {K : Nat → Int32 → Int32 → Int32 → Mem → Option ((Int32 × Mem))} {q : (Int32 × Mem)} (hK : ∀ (v2 : Int32) (v3 : Int32) (M : Mem), K v0 v1 v2 v3 M = some q → ZM G X 19 [(0, .ref v0), (1, .int v1), (2, .int v2), (3, .int v3)] [] M 0 0) (hr : ∀ r : Int32 × Mem, q =  r → EnM G X (some .boolean) (some (.int r.1)) r.2 0 0) {v3 : Int32} {M : Mem} (h : BM_isFew_48 K v0 v1 v3 M = some q) : ZM G X 48 [(0, .ref v0), (1, .int v1), (3, .int v3)] [] M 0 0 := by
  unfold BM_isFew_48 at h
  refine zz_iconst (v := 0) C ddM_isFew_48 (by decide) ?_
  exact zBM_isFew_49 hG C N hD hd hK hr h
set_option maxHeartbeats 2000000 in
theorem zBM_isFew_19 {G : GXM} {X : CxM} (hG : GokM G) (C : CoM G X cM_isFew "HomeFreedModel") (N : mLM X = 4) {d : Nat} (hD : dpM X = d) (hd : 1 ≤ d) {v0 : Nat} {v1 : Int32} {K : Nat → Int32 → Int32 → Int32 → Mem → Option ((Int32 × Mem))} {q : (Int32 × Mem)} (hK : ∀ (v2 : Int32) (v3 : Int32) (M : Mem), K v0 v1 v2 v3 M = some q → ZM G X 19 [(0, .ref v0), (1, .int v1), (2, .int v2), (3, .int v3)] [] M 0 0) (hr : ∀ r : Int32 × Mem, q =  r → EnM G X (some .boolean) (some (.int r.1)) r.2 0 0) {v2 : Int32} {v3 : Int32} {M : Mem} (h : BM_isFew_19 K v0 v1 v2 v3 M = some q) : ZM G X 19 [(0, .ref v0), (1, .int v1), (2, .int v2), (3, .int v3)] [] M 0 0 := by
  unfold BM_isFew_19 at h
  refine zz_iload_n C 3 ddM_isFew_19 rfl rfl ?_
  refine zz_aload_n C 0 ddM_isFew_20 rfl rfl ?_
  obtain ⟨h1, h⟩ := gdN h
  obtain ⟨h2, h⟩ := gdN h
  refine zz_getr C ddM_isFew_21 fl_M_28 rfl h1 (of_decide_eq_true h2) ?_
  refine zz_iload_n C 1 ddM_isFew_24 rfl rfl ?_
  obtain ⟨h3, h⟩ := gdN h
  refine zz_iaload C ddM_isFew_25 h3 ?_
  refine zz_icmp_ge (tgt := 56) C ddM_isFew_26 rfl (fun hc => ?_) (fun hc => ?_)
  · replace h := iteT h hc
    refine zz_iload_n C 2 ddM_isFew_56 rfl rfl ?_
    obtain ⟨h4, h⟩ := gdN h
    exact zz_zret C (of_decide_eq_true h4) (hr _ (Option.some.inj h).symm) ddM_isFew_57
  · replace h := iteF h hc
    refine zz_iload_n C 2 ddM_isFew_29 rfl rfl ?_
    refine zz_if_eq (tgt := 48) C ddM_isFew_30 rfl (fun hc => ?_) (fun hc => ?_)
    · replace h := iteT h hc
      refine zz_loc (L1 := [(0, .ref v0), (1, .int v1), (3, .int v3)]) [0, 1, 3] rfl ?_
      exact zBM_isFew_48 hG C N hD hd hK hr h
    · replace h := iteF h hc
      refine zz_aload_n C 0 ddM_isFew_33 rfl rfl ?_
      refine zz_iload_n C 1 ddM_isFew_34 rfl rfl ?_
      refine zz_iload_n C 3 ddM_isFew_35 rfl rfl ?_
      refine zz_iconst (v := 0) C ddM_isFew_36 (by decide) ?_
      obtain ⟨q5, hq5, h⟩ := bindN h
      refine zz_callV0 (As := [.int v1, .int v3, .int 0]) C ddM_isFew_37 wd_1599 my_M_stepOf mv_M_stepOf ⟨_, rfl, rfl⟩ (xM_stepOf hG (d - 1) (by omega) hq5) (by omega) h1 rfl rfl (Nat.le_of_ble_eq_true rfl) ?_
      refine zz_iconst (v := 5) C ddM_isFew_40 (by decide) ?_
      refine zz_icmp_ge (tgt := 48) C ddM_isFew_41 rfl (fun hc => ?_) (fun hc => ?_)
      · replace h := iteT h hc
        refine zz_loc (L1 := [(0, .ref v0), (1, .int v1), (3, .int v3)]) [0, 1, 3] rfl ?_
        exact zBM_isFew_48 hG C N hD hd hK hr h
      · replace h := iteF h hc
        refine zz_iconst (v := 1) C ddM_isFew_44 (by decide) ?_
        refine zz_goto (tgt := 49) C ddM_isFew_45 rfl ?_
        refine zz_loc (L1 := [(0, .ref v0), (1, .int v1), (3, .int v3)]) [0, 1, 3] rfl ?_
        exact zBM_isFew_49 hG C N hD hd hK hr h
set_option maxHeartbeats 2000000 in
theorem zLM_isFew_19 {G : GXM} {X : CxM} (hG : GokM G) (C : CoM G X cM_isFew "HomeFreedModel") (N : mLM X = 4) {d : Nat} (hD : dpM X = d) (hd : 1 ≤ d) {v0 : Nat} {v1 : Int32} {q : (Int32 × Mem)} : ∀ (f : Nat) (v2 : Int32) (v3 : Int32) (M : Mem), LM_isFew_19 f v0 v1 v2 v3 M = some q → (hr : ∀ r : Int32 × Mem, q =  r → EnM G X (some .boolean) (some (.int r.1)) r.2 0 0) → ZM G X 19 [(0, .ref v0), (1, .int v1), (2, .int v2), (3, .int v3)] [] M 0 0 := by
  intro f
  induction f with
  | zero => intro v2 v3 M h; cases h
  | succ f ih =>
    intro v2 v3 M h hr
    exact zBM_isFew_19 hG C N hD hd (K := LM_isFew_19 f) (q := q) (fun v2 v3 M h => ih v2 v3 M h hr) hr h
set_option maxHeartbeats 2000000 in
theorem zBM_isFew_16 {G : GXM} {X : CxM} (hG : GokM G) (C : CoM G X cM_isFew "HomeFreedModel") (N : mLM X = 4) {d : Nat} (hD : dpM X = d) (hd : 1 ≤ d)  {q : Int32 × Mem} (E : EnM G X (some .boolean) (some (.int q.1)) q.2 0 0) {v0 : Nat} {v1 : Int32} {w0 : Int32} {M : Mem} (h : BM_isFew_16 v0 v1 w0 M = some q) : ZM G X 16 [(0, .ref v0), (1, .int v1)] [.int w0] M 0 0 := by
  unfold BM_isFew_16 at h
  refine zz_istore_n (L1 := [(2, .int w0), (0, .ref v0), (1, .int v1)]) C ddM_isFew_16 rfl N (by decide) rfl ?_
  refine zz_iconst (v := 0) C ddM_isFew_17 (by decide) ?_
  refine zz_istore_n (L1 := [(3, .int 0), (2, .int w0), (0, .ref v0), (1, .int v1)]) C ddM_isFew_18 rfl N (by decide) rfl ?_
  refine zz_loc (L1 := [(0, .ref v0), (1, .int v1), (2, .int w0), (3, .int 0)]) [2, 3, 1, 0] rfl ?_
  obtain ⟨q1, hq1, h⟩ := bindN h
  refine zLM_isFew_19 hG C N hD hd 1000000 _ _ _ hq1 ?_
  · intro r2 eq1; replace eq1 := eq1.symm; subst eq1
    obtain rfl := Option.some.inj h
    exact E
set_option maxHeartbeats 2000000 in
theorem xM_isFew {G : GXM} {l : Launch} (hG : GokM G) (d : Nat) (hd : 1 ≤ d) {v0 : Nat} {v1 : Int32} {M : Mem} {q : Int32 × Mem} (h : fM_isFew v0 v1 M = some q) : ExM G l d 0 0 yM_isFew cM_isFew 4 (some .boolean) [.ref v0, .int v1] M (some (.int q.1)) q.2 := by
  refine ex_of hG (by decide +kernel) (Nat.le_of_ble_eq_true rfl) ?_
  intro X hl C E N hD hn
  show ZM G X 0 [(0, .ref v0), (1, .int v1)] [] M 0 0
  unfold fM_isFew at h
  refine zz_aload_n C 0 ddM_isFew_0 rfl rfl ?_
  obtain ⟨h1, h⟩ := gdN h
  obtain ⟨h2, h⟩ := gdN h
  refine zz_getr C ddM_isFew_1 fl_M_28 rfl h1 (of_decide_eq_true h2) ?_
  refine zz_iload_n C 1 ddM_isFew_4 rfl rfl ?_
  obtain ⟨h3, h⟩ := gdN h
  refine zz_iaload C ddM_isFew_5 h3 ?_
  refine zz_bipush (v := 6) C ddM_isFew_6 (by decide) ?_
  refine zz_icmp_gt (tgt := 15) C ddM_isFew_8 rfl (fun hc => ?_) (fun hc => ?_)
  · replace h := iteT h hc
    refine zz_iconst (v := 0) C ddM_isFew_15 (by decide) ?_
    exact zBM_isFew_16 hG C N hD hd E h
  · replace h := iteF h hc
    refine zz_iconst (v := 1) C ddM_isFew_11 (by decide) ?_
    refine zz_goto (tgt := 16) C ddM_isFew_12 rfl ?_
    exact zBM_isFew_16 hG C N hD hd E h
theorem ddM_endWay_0 : decode cM_endWay 0 = .ok (.aload_n 0, 1) := by decide +kernel
theorem ddM_endWay_1 : decode cM_endWay 1 = .ok (.aload_n 0, 1) := by decide +kernel
theorem ddM_endWay_2 : decode cM_endWay 2 = .ok (.getfield 363, 3) := by decide +kernel
theorem ddM_endWay_5 : decode cM_endWay 5 = .ok (.aload_n 0, 1) := by decide +kernel
theorem ddM_endWay_6 : decode cM_endWay 6 = .ok (.invokevirtual 360, 3) := by decide +kernel
theorem ddM_endWay_9 : decode cM_endWay 9 = .ok (.invokestatic 366, 3) := by decide +kernel
theorem ddM_endWay_12 : decode cM_endWay 12 = .ok (.putfield 363, 3) := by decide +kernel
theorem ddM_endWay_15 : decode cM_endWay 15 = .ok (.aload_n 0, 1) := by decide +kernel
theorem ddM_endWay_16 : decode cM_endWay 16 = .ok (.aload_n 0, 1) := by decide +kernel
theorem ddM_endWay_17 : decode cM_endWay 17 = .ok (.getfield 371, 3) := by decide +kernel
theorem ddM_endWay_20 : decode cM_endWay 20 = .ok (.iconst (-1), 1) := by decide +kernel
theorem ddM_endWay_21 : decode cM_endWay 21 = .ok (.if_icmp .ne 10, 3) := by decide +kernel
theorem ddM_endWay_24 : decode cM_endWay 24 = .ok (.aload_n 0, 1) := by decide +kernel
theorem ddM_endWay_25 : decode cM_endWay 25 = .ok (.invokevirtual 360, 3) := by decide +kernel
theorem ddM_endWay_28 : decode cM_endWay 28 = .ok (.goto 14, 3) := by decide +kernel
theorem ddM_endWay_31 : decode cM_endWay 31 = .ok (.aload_n 0, 1) := by decide +kernel
theorem ddM_endWay_32 : decode cM_endWay 32 = .ok (.getfield 371, 3) := by decide +kernel
theorem ddM_endWay_35 : decode cM_endWay 35 = .ok (.aload_n 0, 1) := by decide +kernel
theorem ddM_endWay_36 : decode cM_endWay 36 = .ok (.invokevirtual 360, 3) := by decide +kernel
theorem ddM_endWay_39 : decode cM_endWay 39 = .ok (.invokestatic 374, 3) := by decide +kernel
theorem ddM_endWay_42 : decode cM_endWay 42 = .ok (.putfield 371, 3) := by decide +kernel
theorem ddM_endWay_45 : decode cM_endWay 45 = .ok (.return_, 1) := by decide +kernel
set_option maxHeartbeats 2000000 in
theorem zBM_endWay_42 {G : GXM} {X : CxM} (hG : GokM G) (C : CoM G X cM_endWay "HomeFreedModel") (N : mLM X = 1) {d : Nat} (hD : dpM X = d) (hd : 2 ≤ d)  {q : Mem} (E : EnM G X none none q 0 0) {w0 : Nat} {w1 : Int32} {M : Mem} (h : BM_endWay_42 w0 w1 M = some q) : ZM G X 42 [] [.int w1, .ref w0] M 0 0 := by
  unfold BM_endWay_42 at h
  obtain ⟨h1, h⟩ := gdN h
  refine zz_puti C ddM_endWay_42 fl_M_371 rfl rfl rfl h1 ?_
  obtain rfl := Option.some.inj h
  exact zz_vret C E ddM_endWay_45
set_option maxHeartbeats 2000000 in
theorem xM_endWay {G : GXM} {l : Launch} (hG : GokM G) (d : Nat) (hd : 2 ≤ d) {v0 : Nat} {M : Mem} {q : Mem} (h : fM_endWay v0 M = some q) : ExM G l d 0 0 yM_endWay cM_endWay 1 none [.ref v0] M none q := by
  refine ex_of hG (by decide +kernel) (Nat.le_of_ble_eq_true rfl) ?_
  intro X hl C E N hD hn
  show ZM G X 0 [(0, .ref v0)] [] M 0 0
  unfold fM_endWay at h
  refine zz_aload_n C 0 ddM_endWay_0 rfl rfl ?_
  refine zz_aload_n C 0 ddM_endWay_1 rfl rfl ?_
  obtain ⟨h1, h⟩ := gdN h
  refine zz_geti C ddM_endWay_2 fl_M_363 rfl h1 ?_
  refine zz_aload_n C 0 ddM_endWay_5 rfl rfl ?_
  obtain ⟨q2, hq2, h⟩ := bindN h
  refine zz_callV0 (As := []) C ddM_endWay_6 wd_1698 my_M_pagesInUse mv_M_pagesInUse ⟨_, rfl, rfl⟩ (xM_pagesInUse hG (d - 1) (by omega) hq2) (by omega) h1 rfl rfl (Nat.le_of_ble_eq_true rfl) ?_
  obtain ⟨q3, hq3, h⟩ := bindN h
  refine zz_callS0 (As := [.int (giM M v0 30), .int q2.1]) C ddM_endWay_9 wd_1718 my_K_max mv_K_max (xK_max hG (d - 1) (by omega) hq3) (by omega) rfl rfl (Nat.le_of_ble_eq_true rfl) ?_
  obtain ⟨h4, h⟩ := gdN h
  refine zz_puti C ddM_endWay_12 fl_M_363 rfl rfl rfl h4 ?_
  refine zz_aload_n C 0 ddM_endWay_15 rfl rfl ?_
  refine zz_aload_n C 0 ddM_endWay_16 rfl rfl ?_
  refine zz_geti C ddM_endWay_17 fl_M_371 rfl h4 ?_
  refine zz_iconst (v := (-1)) C ddM_endWay_20 (by decide) ?_
  refine zz_icmp_ne (tgt := 31) C ddM_endWay_21 rfl (fun hc => ?_) (fun hc => ?_)
  · replace h := iteF h hc
    refine zz_aload_n C 0 ddM_endWay_31 rfl rfl ?_
    refine zz_geti C ddM_endWay_32 fl_M_371 rfl h4 ?_
    refine zz_aload_n C 0 ddM_endWay_35 rfl rfl ?_
    obtain ⟨q5, hq5, h⟩ := bindN h
    refine zz_callV0 (As := []) C ddM_endWay_36 wd_1698 my_M_pagesInUse mv_M_pagesInUse ⟨_, rfl, rfl⟩ (xM_pagesInUse hG (d - 1) (by omega) hq5) (by omega) h4 rfl rfl (Nat.le_of_ble_eq_true rfl) ?_
    obtain ⟨q6, hq6, h⟩ := bindN h
    refine zz_callS0 (As := [.int (giM (siM q3.2 v0 30 q3.1) v0 31), .int q5.1]) C ddM_endWay_39 wd_1719 my_K_min mv_K_min (xK_min hG (d - 1) (by omega) hq6) (by omega) rfl rfl (Nat.le_of_ble_eq_true rfl) ?_
    refine zz_loc (L1 := []) [] rfl ?_
    exact zBM_endWay_42 hG C N hD hd E h
  · replace h := iteT h hc
    refine zz_aload_n C 0 ddM_endWay_24 rfl rfl ?_
    obtain ⟨q7, hq7, h⟩ := bindN h
    refine zz_callV0 (As := []) C ddM_endWay_25 wd_1698 my_M_pagesInUse mv_M_pagesInUse ⟨_, rfl, rfl⟩ (xM_pagesInUse hG (d - 1) (by omega) hq7) (by omega) h4 rfl rfl (Nat.le_of_ble_eq_true rfl) ?_
    refine zz_goto (tgt := 42) C ddM_endWay_28 rfl ?_
    refine zz_loc (L1 := []) [] rfl ?_
    exact zBM_endWay_42 hG C N hD hd E h
theorem ddM_goWays_0 : decode cM_goWays 0 = .ok (.iload_n 3, 1) := by decide +kernel
theorem ddM_goWays_1 : decode cM_goWays 1 = .ok (.aload_n 0, 1) := by decide +kernel
theorem ddM_goWays_2 : decode cM_goWays 2 = .ok (.getfield 28, 3) := by decide +kernel
theorem ddM_goWays_5 : decode cM_goWays 5 = .ok (.iload_n 1, 1) := by decide +kernel
theorem ddM_goWays_6 : decode cM_goWays 6 = .ok (.iaload, 1) := by decide +kernel
theorem ddM_goWays_7 : decode cM_goWays 7 = .ok (.if_icmp .ne 29, 3) := by decide +kernel
theorem ddM_goWays_10 : decode cM_goWays 10 = .ok (.iload 4, 2) := by decide +kernel
theorem ddM_goWays_12 : decode cM_goWays 12 = .ok (.aload_n 0, 1) := by decide +kernel
theorem ddM_goWays_13 : decode cM_goWays 13 = .ok (.getfield 28, 3) := by decide +kernel
theorem ddM_goWays_16 : decode cM_goWays 16 = .ok (.iload_n 2, 1) := by decide +kernel
theorem ddM_goWays_17 : decode cM_goWays 17 = .ok (.iaload, 1) := by decide +kernel
theorem ddM_goWays_18 : decode cM_goWays 18 = .ok (.if_icmp .ne 18, 3) := by decide +kernel
theorem ddM_goWays_21 : decode cM_goWays 21 = .ok (.aload_n 0, 1) := by decide +kernel
theorem ddM_goWays_22 : decode cM_goWays 22 = .ok (.dup, 1) := by decide +kernel
theorem ddM_goWays_23 : decode cM_goWays 23 = .ok (.getfield 377, 3) := by decide +kernel
theorem ddM_goWays_26 : decode cM_goWays 26 = .ok (.iconst 1, 1) := by decide +kernel
theorem ddM_goWays_27 : decode cM_goWays 27 = .ok (.iadd, 1) := by decide +kernel
theorem ddM_goWays_28 : decode cM_goWays 28 = .ok (.putfield 377, 3) := by decide +kernel
theorem ddM_goWays_31 : decode cM_goWays 31 = .ok (.aload_n 0, 1) := by decide +kernel
theorem ddM_goWays_32 : decode cM_goWays 32 = .ok (.invokevirtual 380, 3) := by decide +kernel
theorem ddM_goWays_35 : decode cM_goWays 35 = .ok (.return_, 1) := by decide +kernel
theorem ddM_goWays_36 : decode cM_goWays 36 = .ok (.iload_n 3, 1) := by decide +kernel
theorem ddM_goWays_37 : decode cM_goWays 37 = .ok (.iload 4, 2) := by decide +kernel
theorem ddM_goWays_39 : decode cM_goWays 39 = .ok (.iadd, 1) := by decide +kernel
theorem ddM_goWays_40 : decode cM_goWays 40 = .ok (.istore 5, 2) := by decide +kernel
theorem ddM_goWays_42 : decode cM_goWays 42 = .ok (.iconst 0, 1) := by decide +kernel
theorem ddM_goWays_43 : decode cM_goWays 43 = .ok (.istore 6, 2) := by decide +kernel
theorem ddM_goWays_45 : decode cM_goWays 45 = .ok (.iload 6, 2) := by decide +kernel
theorem ddM_goWays_47 : decode cM_goWays 47 = .ok (.iconst 2, 1) := by decide +kernel
theorem ddM_goWays_48 : decode cM_goWays 48 = .ok (.if_icmp .ge 178, 3) := by decide +kernel
theorem ddM_goWays_51 : decode cM_goWays 51 = .ok (.iload 6, 2) := by decide +kernel
theorem ddM_goWays_53 : decode cM_goWays 53 = .ok (.ifCond .ne 7, 3) := by decide +kernel
theorem ddM_goWays_56 : decode cM_goWays 56 = .ok (.iload_n 1, 1) := by decide +kernel
theorem ddM_goWays_57 : decode cM_goWays 57 = .ok (.goto 4, 3) := by decide +kernel
theorem ddM_goWays_60 : decode cM_goWays 60 = .ok (.iload_n 2, 1) := by decide +kernel
theorem ddM_goWays_61 : decode cM_goWays 61 = .ok (.istore 7, 2) := by decide +kernel
theorem ddM_goWays_63 : decode cM_goWays 63 = .ok (.iload 6, 2) := by decide +kernel
theorem ddM_goWays_65 : decode cM_goWays 65 = .ok (.ifCond .ne 7, 3) := by decide +kernel
theorem ddM_goWays_68 : decode cM_goWays 68 = .ok (.iload_n 3, 1) := by decide +kernel
theorem ddM_goWays_69 : decode cM_goWays 69 = .ok (.goto 5, 3) := by decide +kernel
theorem ddM_goWays_72 : decode cM_goWays 72 = .ok (.iload 4, 2) := by decide +kernel
theorem ddM_goWays_74 : decode cM_goWays 74 = .ok (.istore 8, 2) := by decide +kernel
theorem ddM_goWays_76 : decode cM_goWays 76 = .ok (.iload 8, 2) := by decide +kernel
theorem ddM_goWays_78 : decode cM_goWays 78 = .ok (.aload_n 0, 1) := by decide +kernel
theorem ddM_goWays_79 : decode cM_goWays 79 = .ok (.getfield 28, 3) := by decide +kernel
theorem ddM_goWays_82 : decode cM_goWays 82 = .ok (.iload 7, 2) := by decide +kernel
theorem ddM_goWays_84 : decode cM_goWays 84 = .ok (.iaload, 1) := by decide +kernel
theorem ddM_goWays_85 : decode cM_goWays 85 = .ok (.if_icmp .ge 135, 3) := by decide +kernel
theorem ddM_goWays_88 : decode cM_goWays 88 = .ok (.aload_n 0, 1) := by decide +kernel
theorem ddM_goWays_89 : decode cM_goWays 89 = .ok (.iload 7, 2) := by decide +kernel
theorem ddM_goWays_91 : decode cM_goWays 91 = .ok (.iload 8, 2) := by decide +kernel
theorem ddM_goWays_93 : decode cM_goWays 93 = .ok (.iload 6, 2) := by decide +kernel
theorem ddM_goWays_95 : decode cM_goWays 95 = .ok (.invokevirtual 291, 3) := by decide +kernel
theorem ddM_goWays_98 : decode cM_goWays 98 = .ok (.ifCond .eq 118, 3) := by decide +kernel
theorem ddM_goWays_101 : decode cM_goWays 101 = .ok (.aload_n 0, 1) := by decide +kernel
theorem ddM_goWays_102 : decode cM_goWays 102 = .ok (.iload 5, 2) := by decide +kernel
theorem ddM_goWays_104 : decode cM_goWays 104 = .ok (.invokevirtual 351, 3) := by decide +kernel
theorem ddM_goWays_107 : decode cM_goWays 107 = .ok (.aload_n 0, 1) := by decide +kernel
theorem ddM_goWays_108 : decode cM_goWays 108 = .ok (.iload 7, 2) := by decide +kernel
theorem ddM_goWays_110 : decode cM_goWays 110 = .ok (.iload 8, 2) := by decide +kernel
theorem ddM_goWays_112 : decode cM_goWays 112 = .ok (.iconst 0, 1) := by decide +kernel
theorem ddM_goWays_113 : decode cM_goWays 113 = .ok (.invokevirtual 256, 3) := by decide +kernel
theorem ddM_goWays_116 : decode cM_goWays 116 = .ok (.istore 9, 2) := by decide +kernel
theorem ddM_goWays_118 : decode cM_goWays 118 = .ok (.aload_n 0, 1) := by decide +kernel
theorem ddM_goWays_119 : decode cM_goWays 119 = .ok (.iload 7, 2) := by decide +kernel
theorem ddM_goWays_121 : decode cM_goWays 121 = .ok (.iload 8, 2) := by decide +kernel
theorem ddM_goWays_123 : decode cM_goWays 123 = .ok (.iload 6, 2) := by decide +kernel
theorem ddM_goWays_125 : decode cM_goWays 125 = .ok (.iconst 0, 1) := by decide +kernel
theorem ddM_goWays_126 : decode cM_goWays 126 = .ok (.invokevirtual 294, 3) := by decide +kernel
theorem ddM_goWays_129 : decode cM_goWays 129 = .ok (.aload_n 0, 1) := by decide +kernel
theorem ddM_goWays_130 : decode cM_goWays 130 = .ok (.iload_n 1, 1) := by decide +kernel
theorem ddM_goWays_131 : decode cM_goWays 131 = .ok (.iload_n 2, 1) := by decide +kernel
theorem ddM_goWays_132 : decode cM_goWays 132 = .ok (.iload 6, 2) := by decide +kernel
theorem ddM_goWays_134 : decode cM_goWays 134 = .ok (.ifCond .ne 9, 3) := by decide +kernel
theorem ddM_goWays_137 : decode cM_goWays 137 = .ok (.iload_n 3, 1) := by decide +kernel
theorem ddM_goWays_138 : decode cM_goWays 138 = .ok (.iconst 1, 1) := by decide +kernel
theorem ddM_goWays_139 : decode cM_goWays 139 = .ok (.iadd, 1) := by decide +kernel
theorem ddM_goWays_140 : decode cM_goWays 140 = .ok (.goto 4, 3) := by decide +kernel
theorem ddM_goWays_143 : decode cM_goWays 143 = .ok (.iload_n 3, 1) := by decide +kernel
theorem ddM_goWays_144 : decode cM_goWays 144 = .ok (.iload 6, 2) := by decide +kernel
theorem ddM_goWays_146 : decode cM_goWays 146 = .ok (.ifCond .ne 8, 3) := by decide +kernel
theorem ddM_goWays_149 : decode cM_goWays 149 = .ok (.iload 4, 2) := by decide +kernel
theorem ddM_goWays_151 : decode cM_goWays 151 = .ok (.goto 7, 3) := by decide +kernel
theorem ddM_goWays_154 : decode cM_goWays 154 = .ok (.iload 4, 2) := by decide +kernel
theorem ddM_goWays_156 : decode cM_goWays 156 = .ok (.iconst 1, 1) := by decide +kernel
theorem ddM_goWays_157 : decode cM_goWays 157 = .ok (.iadd, 1) := by decide +kernel
theorem ddM_goWays_158 : decode cM_goWays 158 = .ok (.invokevirtual 383, 3) := by decide +kernel
theorem ddM_goWays_161 : decode cM_goWays 161 = .ok (.aload_n 0, 1) := by decide +kernel
theorem ddM_goWays_162 : decode cM_goWays 162 = .ok (.iload 5, 2) := by decide +kernel
theorem ddM_goWays_164 : decode cM_goWays 164 = .ok (.invokevirtual 354, 3) := by decide +kernel
theorem ddM_goWays_167 : decode cM_goWays 167 = .ok (.iload 9, 2) := by decide +kernel
theorem ddM_goWays_169 : decode cM_goWays 169 = .ok (.ifCond .ne 17, 3) := by decide +kernel
theorem ddM_goWays_172 : decode cM_goWays 172 = .ok (.aload_n 0, 1) := by decide +kernel
theorem ddM_goWays_173 : decode cM_goWays 173 = .ok (.getfield 50, 3) := by decide +kernel
theorem ddM_goWays_176 : decode cM_goWays 176 = .ok (.iload 6, 2) := by decide +kernel
theorem ddM_goWays_178 : decode cM_goWays 178 = .ok (.dup2, 1) := by decide +kernel
theorem ddM_goWays_179 : decode cM_goWays 179 = .ok (.iaload, 1) := by decide +kernel
theorem ddM_goWays_180 : decode cM_goWays 180 = .ok (.iconst 1, 1) := by decide +kernel
theorem ddM_goWays_181 : decode cM_goWays 181 = .ok (.isub, 1) := by decide +kernel
theorem ddM_goWays_182 : decode cM_goWays 182 = .ok (.iastore, 1) := by decide +kernel
theorem ddM_goWays_183 : decode cM_goWays 183 = .ok (.goto 30, 3) := by decide +kernel
theorem ddM_goWays_186 : decode cM_goWays 186 = .ok (.iload 9, 2) := by decide +kernel
theorem ddM_goWays_188 : decode cM_goWays 188 = .ok (.iconst 1, 1) := by decide +kernel
theorem ddM_goWays_189 : decode cM_goWays 189 = .ok (.if_icmp .ne 24, 3) := by decide +kernel
theorem ddM_goWays_192 : decode cM_goWays 192 = .ok (.aload_n 0, 1) := by decide +kernel
theorem ddM_goWays_193 : decode cM_goWays 193 = .ok (.getfield 46, 3) := by decide +kernel
theorem ddM_goWays_196 : decode cM_goWays 196 = .ok (.bipush 24, 2) := by decide +kernel
theorem ddM_goWays_198 : decode cM_goWays 198 = .ok (.iload 6, 2) := by decide +kernel
theorem ddM_goWays_200 : decode cM_goWays 200 = .ok (.imul, 1) := by decide +kernel
theorem ddM_goWays_201 : decode cM_goWays 201 = .ok (.aload_n 0, 1) := by decide +kernel
theorem ddM_goWays_202 : decode cM_goWays 202 = .ok (.iload 7, 2) := by decide +kernel
theorem ddM_goWays_204 : decode cM_goWays 204 = .ok (.iload 8, 2) := by decide +kernel
theorem ddM_goWays_206 : decode cM_goWays 206 = .ok (.iconst 2, 1) := by decide +kernel
theorem ddM_goWays_207 : decode cM_goWays 207 = .ok (.invokevirtual 256, 3) := by decide +kernel
theorem ddM_goWays_210 : decode cM_goWays 210 = .ok (.iadd, 1) := by decide +kernel
theorem ddM_goWays_211 : decode cM_goWays 211 = .ok (.iconst 1, 1) := by decide +kernel
theorem ddM_goWays_212 : decode cM_goWays 212 = .ok (.bastore, 1) := by decide +kernel
theorem ddM_goWays_213 : decode cM_goWays 213 = .ok (.goto 7, 3) := by decide +kernel
theorem ddM_goWays_216 : decode cM_goWays 216 = .ok (.aload_n 0, 1) := by decide +kernel
theorem ddM_goWays_217 : decode cM_goWays 217 = .ok (.invokevirtual 380, 3) := by decide +kernel
theorem ddM_goWays_220 : decode cM_goWays 220 = .ok (.iinc 6 1, 3) := by decide +kernel
theorem ddM_goWays_223 : decode cM_goWays 223 = .ok (.goto (-178), 3) := by decide +kernel
theorem ddM_goWays_226 : decode cM_goWays 226 = .ok (.return_, 1) := by decide +kernel
set_option maxHeartbeats 2000000 in
theorem zBM_goWays_220 {self : Nat → Int32 → Int32 → Int32 → Int32 → Mem → Option (Mem)} {G : GXM} {X : CxM} (hG : GokM G) (C : CoM G X cM_goWays "HomeFreedModel") (N : mLM X = 10) {d : Nat} (hD : dpM X = d) (hd : 10 ≤ d) (hS : ∀ (v0 : Nat) (v1 : Int32) (v2 : Int32) (v3 : Int32) (v4 : Int32) (M : Mem) (q : Mem), self v0 v1 v2 v3 v4 M = some q → ExM G X.2.1 (d - 1) 0 0 yM_goWays cM_goWays 10 none [.ref v0, .int v1, .int v2, .int v3, .int v4] M none q) {v0 : Nat} {v1 : Int32} {v2 : Int32} {v3 : Int32} {v4 : Int32} {v5 : Int32} {K : Nat → Int32 → Int32 → Int32 → Int32 → Int32 → Int32 → Mem → Option ((Mem))} {q : (Mem)} (hK : ∀ (v6 : Int32) (M : Mem), K v0 v1 v2 v3 v4 v5 v6 M = some q → ZM G X 45 [(0, .ref v0), (1, .int v1), (2, .int v2), (3, .int v3), (4, .int v4), (5, .int v5), (6, .int v6)] [] M 0 0) (hr : ∀ r : Mem, q =  r → EnM G X none none r 0 0) {v6 : Int32} {M : Mem} (h : BM_goWays_220 self K v0 v1 v2 v3 v4 v5 v6 M = some q) : ZM G X 220 [(0, .ref v0), (1, .int v1), (2, .int v2), (3, .int v3), (4, .int v4), (5, .int v5), (6, .int v6)] [] M 0 0 := by
  unfold BM_goWays_220 at h
  refine zz_iinc (v := v6 + 1) (L1 := [(6, .int (v6 + 1)), (0, .ref v0), (1, .int v1), (2, .int v2), (3, .int v3), (4, .int v4), (5, .int v5)]) C 6 ddM_goWays_220 rfl rfl N (by decide) rfl ?_
  refine zz_goto (tgt := 45) C ddM_goWays_223 rfl ?_
  refine zz_loc (L1 := [(0, .ref v0), (1, .int v1), (2, .int v2), (3, .int v3), (4, .int v4), (5, .int v5), (6, .int (v6 + 1))]) [1, 2, 3, 4, 5, 6, 0] rfl ?_
  exact hK _ _ h
set_option maxHeartbeats 2000000 in
theorem zBM_goWays_213 {self : Nat → Int32 → Int32 → Int32 → Int32 → Mem → Option (Mem)} {G : GXM} {X : CxM} (hG : GokM G) (C : CoM G X cM_goWays "HomeFreedModel") (N : mLM X = 10) {d : Nat} (hD : dpM X = d) (hd : 10 ≤ d) (hS : ∀ (v0 : Nat) (v1 : Int32) (v2 : Int32) (v3 : Int32) (v4 : Int32) (M : Mem) (q : Mem), self v0 v1 v2 v3 v4 M = some q → ExM G X.2.1 (d - 1) 0 0 yM_goWays cM_goWays 10 none [.ref v0, .int v1, .int v2, .int v3, .int v4] M none q) {v0 : Nat} {v1 : Int32} {v2 : Int32} {v3 : Int32} {v4 : Int32} {v5 : Int32} {K : Nat → Int32 → Int32 → Int32 → Int32 → Int32 → Int32 → Mem → Option ((Mem))} {q : (Mem)} (hK : ∀ (v6 : Int32) (M : Mem), K v0 v1 v2 v3 v4 v5 v6 M = some q → ZM G X 45 [(0, .ref v0), (1, .int v1), (2, .int v2), (3, .int v3), (4, .int v4), (5, .int v5), (6, .int v6)] [] M 0 0) (hr : ∀ r : Mem, q =  r → EnM G X none none r 0 0) {v6 : Int32} {M : Mem} (h : BM_goWays_213 self K v0 v1 v2 v3 v4 v5 v6 M = some q) : ZM G X 213 [(0, .ref v0), (1, .int v1), (2, .int v2), (3, .int v3), (4, .int v4), (5, .int v5), (6, .int v6)] [] M 0 0 := by
  unfold BM_goWays_213 at h
  refine zz_goto (tgt := 220) C ddM_goWays_213 rfl ?_
  exact zBM_goWays_220 hG C N hD hd hS hK hr h
set_option maxHeartbeats 2000000 in
theorem zBM_goWays_158 {self : Nat → Int32 → Int32 → Int32 → Int32 → Mem → Option (Mem)} {G : GXM} {X : CxM} (hG : GokM G) (C : CoM G X cM_goWays "HomeFreedModel") (N : mLM X = 10) {d : Nat} (hD : dpM X = d) (hd : 10 ≤ d) (hS : ∀ (v0 : Nat) (v1 : Int32) (v2 : Int32) (v3 : Int32) (v4 : Int32) (M : Mem) (q : Mem), self v0 v1 v2 v3 v4 M = some q → ExM G X.2.1 (d - 1) 0 0 yM_goWays cM_goWays 10 none [.ref v0, .int v1, .int v2, .int v3, .int v4] M none q) {v0 : Nat} {v1 : Int32} {v2 : Int32} {v3 : Int32} {v4 : Int32} {v5 : Int32} {K : Nat → Int32 → Int32 → Int32 → Int32 → Int32 → Int32 → Mem → Option ((Mem))} {q : (Mem)} (hK : ∀ (v6 : Int32) (M : Mem), K v0 v1 v2 v3 v4 v5 v6 M = some q → ZM G X 45 [(0, .ref v0), (1, .int v1), (2, .int v2), (3, .int v3), (4, .int v4), (5, .int v5), (6, .int v6)] [] M 0 0) (hr : ∀ r : Mem, q =  r → EnM G X none none r 0 0) {v6 : Int32} {v7 : Int32} {v8 : Int32} {v9 : Int32} {w0 : Nat} {w1 : Int32} {w2 : Int32} {w3 : Int32} {w4 : Int32} {M : Mem} (h : BM_goWays_158 self K v0 v1 v2 v3 v4 v5 v6 v7 v8 v9 w0 w1 w2 w3 w4 M = some q) : ZM G X 158 [(0, .ref v0), (1, .int v1), (2, .int v2), (3, .int v3), (4, .int v4), (5, .int v5), (6, .int v6), (7, .int v7), (8, .int v8), (9, .int v9)] [.int w4, .int w3, .int w2, .int w1, .ref w0] M 0 0 := by
  unfold BM_goWays_158 at h
  obtain ⟨h2, h⟩ := gdN h
  obtain ⟨q1, hq1, h⟩ := bindN h
  refine zz_callV0 (As := [.int w1, .int w2, .int w3, .int w4]) C ddM_goWays_158 wd_1710 my_M_goWays mv_M_goWays ⟨_, rfl, rfl⟩ (hS _ _ _ _ _ _ _ hq1) (by omega) h2 rfl rfl (Nat.le_of_ble_eq_true rfl) ?_
  refine zz_aload_n C 0 ddM_goWays_161 rfl rfl ?_
  refine zz_iload C 5 ddM_goWays_162 rfl ?_
  obtain ⟨h4, h⟩ := gdN h
  obtain ⟨q3, hq3, h⟩ := bindN h
  refine zz_callV0 (As := [.int v5]) C ddM_goWays_164 wd_1678 my_M_takeBack mv_M_takeBack ⟨_, rfl, rfl⟩ (xM_takeBack hG (d - 1) (by omega) hq3) (by omega) h4 rfl rfl (Nat.le_of_ble_eq_true rfl) ?_
  refine zz_iload C 9 ddM_goWays_167 rfl ?_
  refine zz_if_ne (tgt := 186) C ddM_goWays_169 rfl (fun hc => ?_) (fun hc => ?_)
  · replace h := iteF h hc
    refine zz_iload C 9 ddM_goWays_186 rfl ?_
    refine zz_iconst (v := 1) C ddM_goWays_188 (by decide) ?_
    refine zz_icmp_ne (tgt := 213) C ddM_goWays_189 rfl (fun hc => ?_) (fun hc => ?_)
    · replace h := iteF h hc
      refine zz_loc (L1 := [(0, .ref v0), (1, .int v1), (2, .int v2), (3, .int v3), (4, .int v4), (5, .int v5), (6, .int v6)]) [0, 1, 2, 3, 4, 5, 6] rfl ?_
      exact zBM_goWays_213 hG C N hD hd hS hK hr h
    · replace h := iteT h hc
      refine zz_aload_n C 0 ddM_goWays_192 rfl rfl ?_
      obtain ⟨h5, h⟩ := gdN h
      obtain ⟨h6, h⟩ := gdN h
      refine zz_getr C ddM_goWays_193 fl_M_46 rfl h5 (of_decide_eq_true h6) ?_
      refine zz_bipush (v := 24) C ddM_goWays_196 (by decide) ?_
      refine zz_iload C 6 ddM_goWays_198 rfl ?_
      refine zz_imul C ddM_goWays_200 ?_
      refine zz_aload_n C 0 ddM_goWays_201 rfl rfl ?_
      refine zz_iload C 7 ddM_goWays_202 rfl ?_
      refine zz_iload C 8 ddM_goWays_204 rfl ?_
      refine zz_iconst (v := 2) C ddM_goWays_206 (by decide) ?_
      obtain ⟨q7, hq7, h⟩ := bindN h
      refine zz_callV0 (As := [.int v7, .int v8, .int 2]) C ddM_goWays_207 wd_1599 my_M_stepOf mv_M_stepOf ⟨_, rfl, rfl⟩ (xM_stepOf hG (d - 1) (by omega) hq7) (by omega) h5 rfl rfl (Nat.le_of_ble_eq_true rfl) ?_
      refine zz_iadd C ddM_goWays_210 ?_
      refine zz_iconst (v := 1) C ddM_goWays_211 (by decide) ?_
      obtain ⟨h8, h⟩ := gdN h
      refine zz_bastore C ddM_goWays_212 h8 (by decide) ?_
      refine zz_loc (L1 := [(0, .ref v0), (1, .int v1), (2, .int v2), (3, .int v3), (4, .int v4), (5, .int v5), (6, .int v6)]) [0, 1, 2, 3, 4, 5, 6] rfl ?_
      exact zBM_goWays_213 hG C N hD hd hS hK hr h
  · replace h := iteT h hc
    refine zz_aload_n C 0 ddM_goWays_172 rfl rfl ?_
    obtain ⟨h9, h⟩ := gdN h
    obtain ⟨h10, h⟩ := gdN h
    refine zz_getr C ddM_goWays_173 fl_M_50 rfl h9 (of_decide_eq_true h10) ?_
    refine zz_iload C 6 ddM_goWays_176 rfl ?_
    refine zz_dup2 C ddM_goWays_178 rfl rfl ?_
    obtain ⟨h11, h⟩ := gdN h
    refine zz_iaload C ddM_goWays_179 h11 ?_
    refine zz_iconst (v := 1) C ddM_goWays_180 (by decide) ?_
    refine zz_isub C ddM_goWays_181 ?_
    obtain ⟨h12, h⟩ := gdN h
    refine zz_iastore C ddM_goWays_182 h12 ?_
    refine zz_goto (tgt := 213) C ddM_goWays_183 rfl ?_
    refine zz_loc (L1 := [(0, .ref v0), (1, .int v1), (2, .int v2), (3, .int v3), (4, .int v4), (5, .int v5), (6, .int v6)]) [0, 1, 2, 3, 4, 5, 6] rfl ?_
    exact zBM_goWays_213 hG C N hD hd hS hK hr h
set_option maxHeartbeats 2000000 in
theorem zBM_goWays_144 {self : Nat → Int32 → Int32 → Int32 → Int32 → Mem → Option (Mem)} {G : GXM} {X : CxM} (hG : GokM G) (C : CoM G X cM_goWays "HomeFreedModel") (N : mLM X = 10) {d : Nat} (hD : dpM X = d) (hd : 10 ≤ d) (hS : ∀ (v0 : Nat) (v1 : Int32) (v2 : Int32) (v3 : Int32) (v4 : Int32) (M : Mem) (q : Mem), self v0 v1 v2 v3 v4 M = some q → ExM G X.2.1 (d - 1) 0 0 yM_goWays cM_goWays 10 none [.ref v0, .int v1, .int v2, .int v3, .int v4] M none q) {v0 : Nat} {v1 : Int32} {v2 : Int32} {v3 : Int32} {v4 : Int32} {v5 : Int32} {K : Nat → Int32 → Int32 → Int32 → Int32 → Int32 → Int32 → Mem → Option ((Mem))} {q : (Mem)} (hK : ∀ (v6 : Int32) (M : Mem), K v0 v1 v2 v3 v4 v5 v6 M = some q → ZM G X 45 [(0, .ref v0), (1, .int v1), (2, .int v2), (3, .int v3), (4, .int v4), (5, .int v5), (6, .int v6)] [] M 0 0) (hr : ∀ r : Mem, q =  r → EnM G X none none r 0 0) {v6 : Int32} {v7 : Int32} {v8 : Int32} {v9 : Int32} {w0 : Nat} {w1 : Int32} {w2 : Int32} {w3 : Int32} {M : Mem} (h : BM_goWays_144 self K v0 v1 v2 v3 v4 v5 v6 v7 v8 v9 w0 w1 w2 w3 M = some q) : ZM G X 144 [(0, .ref v0), (1, .int v1), (2, .int v2), (3, .int v3), (4, .int v4), (5, .int v5), (6, .int v6), (7, .int v7), (8, .int v8), (9, .int v9)] [.int w3, .int w2, .int w1, .ref w0] M 0 0 := by
  unfold BM_goWays_144 at h
  refine zz_iload C 6 ddM_goWays_144 rfl ?_
  refine zz_if_ne (tgt := 154) C ddM_goWays_146 rfl (fun hc => ?_) (fun hc => ?_)
  · replace h := iteF h hc
    refine zz_iload C 4 ddM_goWays_154 rfl ?_
    refine zz_iconst (v := 1) C ddM_goWays_156 (by decide) ?_
    refine zz_iadd C ddM_goWays_157 ?_
    exact zBM_goWays_158 hG C N hD hd hS hK hr h
  · replace h := iteT h hc
    refine zz_iload C 4 ddM_goWays_149 rfl ?_
    refine zz_goto (tgt := 158) C ddM_goWays_151 rfl ?_
    exact zBM_goWays_158 hG C N hD hd hS hK hr h
set_option maxHeartbeats 2000000 in
theorem zBM_goWays_74 {self : Nat → Int32 → Int32 → Int32 → Int32 → Mem → Option (Mem)} {G : GXM} {X : CxM} (hG : GokM G) (C : CoM G X cM_goWays "HomeFreedModel") (N : mLM X = 10) {d : Nat} (hD : dpM X = d) (hd : 10 ≤ d) (hS : ∀ (v0 : Nat) (v1 : Int32) (v2 : Int32) (v3 : Int32) (v4 : Int32) (M : Mem) (q : Mem), self v0 v1 v2 v3 v4 M = some q → ExM G X.2.1 (d - 1) 0 0 yM_goWays cM_goWays 10 none [.ref v0, .int v1, .int v2, .int v3, .int v4] M none q) {v0 : Nat} {v1 : Int32} {v2 : Int32} {v3 : Int32} {v4 : Int32} {v5 : Int32} {K : Nat → Int32 → Int32 → Int32 → Int32 → Int32 → Int32 → Mem → Option ((Mem))} {q : (Mem)} (hK : ∀ (v6 : Int32) (M : Mem), K v0 v1 v2 v3 v4 v5 v6 M = some q → ZM G X 45 [(0, .ref v0), (1, .int v1), (2, .int v2), (3, .int v3), (4, .int v4), (5, .int v5), (6, .int v6)] [] M 0 0) (hr : ∀ r : Mem, q =  r → EnM G X none none r 0 0) {v6 : Int32} {v7 : Int32} {w0 : Int32} {M : Mem} (h : BM_goWays_74 self K v0 v1 v2 v3 v4 v5 v6 v7 w0 M = some q) : ZM G X 74 [(0, .ref v0), (1, .int v1), (2, .int v2), (3, .int v3), (4, .int v4), (5, .int v5), (6, .int v6), (7, .int v7)] [.int w0] M 0 0 := by
  unfold BM_goWays_74 at h
  refine zz_istore (L1 := [(8, .int w0), (0, .ref v0), (1, .int v1), (2, .int v2), (3, .int v3), (4, .int v4), (5, .int v5), (6, .int v6), (7, .int v7)]) C ddM_goWays_74 N (by decide) rfl ?_
  refine zz_iload C 0 ddM_goWays_76 rfl ?_
  refine zz_aload_n C 1 ddM_goWays_78 rfl rfl ?_
  obtain ⟨h1, h⟩ := gdN h
  obtain ⟨h2, h⟩ := gdN h
  refine zz_getr C ddM_goWays_79 fl_M_28 rfl h1 (of_decide_eq_true h2) ?_
  refine zz_iload C 8 ddM_goWays_82 rfl ?_
  obtain ⟨h3, h⟩ := gdN h
  refine zz_iaload C ddM_goWays_84 h3 ?_
  refine zz_icmp_ge (tgt := 220) C ddM_goWays_85 rfl (fun hc => ?_) (fun hc => ?_)
  · replace h := iteT h hc
    refine zz_loc (L1 := [(0, .ref v0), (1, .int v1), (2, .int v2), (3, .int v3), (4, .int v4), (5, .int v5), (6, .int v6)]) [1, 2, 3, 4, 5, 6, 7] rfl ?_
    exact zBM_goWays_220 hG C N hD hd hS hK hr h
  · replace h := iteF h hc
    refine zz_aload_n C 1 ddM_goWays_88 rfl rfl ?_
    refine zz_iload C 8 ddM_goWays_89 rfl ?_
    refine zz_iload C 0 ddM_goWays_91 rfl ?_
    refine zz_iload C 7 ddM_goWays_93 rfl ?_
    obtain ⟨q4, hq4, h⟩ := bindN h
    refine zz_callV0 (As := [.int v7, .int w0, .int v6]) C ddM_goWays_95 wd_1595 my_M_canStep mv_M_canStep ⟨_, rfl, rfl⟩ (xM_canStep hG (d - 1) (by omega) hq4) (by omega) h1 rfl rfl (Nat.le_of_ble_eq_true rfl) ?_
    refine zz_if_eq (tgt := 216) C ddM_goWays_98 rfl (fun hc => ?_) (fun hc => ?_)
    · replace h := iteT h hc
      refine zz_aload_n C 1 ddM_goWays_216 rfl rfl ?_
      obtain ⟨h6, h⟩ := gdN h
      obtain ⟨q5, hq5, h⟩ := bindN h
      refine zz_callV0 (As := []) C ddM_goWays_217 wd_1714 my_M_endWay mv_M_endWay ⟨_, rfl, rfl⟩ (xM_endWay hG (d - 1) (by omega) hq5) (by omega) h6 rfl rfl (Nat.le_of_ble_eq_true rfl) ?_
      refine zz_loc (L1 := [(0, .ref v0), (1, .int v1), (2, .int v2), (3, .int v3), (4, .int v4), (5, .int v5), (6, .int v6)]) [1, 2, 3, 4, 5, 6, 7] rfl ?_
      exact zBM_goWays_220 hG C N hD hd hS hK hr h
    · replace h := iteF h hc
      refine zz_aload_n C 1 ddM_goWays_101 rfl rfl ?_
      refine zz_iload C 6 ddM_goWays_102 rfl ?_
      obtain ⟨h8, h⟩ := gdN h
      obtain ⟨q7, hq7, h⟩ := bindN h
      refine zz_callV0 (As := [.int v5]) C ddM_goWays_104 wd_1674 my_M_putAside mv_M_putAside ⟨_, rfl, rfl⟩ (xM_putAside hG (d - 1) (by omega) hq7) (by omega) h8 rfl rfl (Nat.le_of_ble_eq_true rfl) ?_
      refine zz_aload_n C 1 ddM_goWays_107 rfl rfl ?_
      refine zz_iload C 8 ddM_goWays_108 rfl ?_
      refine zz_iload C 0 ddM_goWays_110 rfl ?_
      refine zz_iconst (v := 0) C ddM_goWays_112 (by decide) ?_
      obtain ⟨h10, h⟩ := gdN h
      obtain ⟨q9, hq9, h⟩ := bindN h
      refine zz_callV0 (As := [.int v7, .int w0, .int 0]) C ddM_goWays_113 wd_1599 my_M_stepOf mv_M_stepOf ⟨_, rfl, rfl⟩ (xM_stepOf hG (d - 1) (by omega) hq9) (by omega) h10 rfl rfl (Nat.le_of_ble_eq_true rfl) ?_
      refine zz_istore (L1 := [(9, .int q9.1), (8, .int w0), (0, .ref v0), (1, .int v1), (2, .int v2), (3, .int v3), (4, .int v4), (5, .int v5), (6, .int v6), (7, .int v7)]) C ddM_goWays_116 N (by decide) rfl ?_
      refine zz_aload_n C 2 ddM_goWays_118 rfl rfl ?_
      refine zz_iload C 9 ddM_goWays_119 rfl ?_
      refine zz_iload C 1 ddM_goWays_121 rfl ?_
      refine zz_iload C 8 ddM_goWays_123 rfl ?_
      refine zz_iconst (v := 0) C ddM_goWays_125 (by decide) ?_
      obtain ⟨h12, h⟩ := gdN h
      obtain ⟨q11, hq11, h⟩ := bindN h
      refine zz_callV0 (As := [.int v7, .int w0, .int v6, .int 0]) C ddM_goWays_126 wd_1603 my_M_doStep mv_M_doStep ⟨_, rfl, rfl⟩ (xM_doStep hG (d - 1) (by omega) hq11) (by omega) h12 rfl rfl (Nat.le_of_ble_eq_true rfl) ?_
      refine zz_aload_n C 2 ddM_goWays_129 rfl rfl ?_
      refine zz_iload_n C 3 ddM_goWays_130 rfl rfl ?_
      refine zz_iload_n C 4 ddM_goWays_131 rfl rfl ?_
      refine zz_iload C 8 ddM_goWays_132 rfl ?_
      refine zz_if_ne (tgt := 143) C ddM_goWays_134 rfl (fun hc => ?_) (fun hc => ?_)
      · replace h := iteF h hc
        refine zz_iload_n C 5 ddM_goWays_143 rfl rfl ?_
        refine zz_loc (L1 := [(0, .ref v0), (1, .int v1), (2, .int v2), (3, .int v3), (4, .int v4), (5, .int v5), (6, .int v6), (7, .int v7), (8, .int w0), (9, .int q9.1)]) [2, 3, 4, 5, 6, 7, 8, 9, 1, 0] rfl ?_
        exact zBM_goWays_144 hG C N hD hd hS hK hr h
      · replace h := iteT h hc
        refine zz_iload_n C 5 ddM_goWays_137 rfl rfl ?_
        refine zz_iconst (v := 1) C ddM_goWays_138 (by decide) ?_
        refine zz_iadd C ddM_goWays_139 ?_
        refine zz_goto (tgt := 144) C ddM_goWays_140 rfl ?_
        refine zz_loc (L1 := [(0, .ref v0), (1, .int v1), (2, .int v2), (3, .int v3), (4, .int v4), (5, .int v5), (6, .int v6), (7, .int v7), (8, .int w0), (9, .int q9.1)]) [2, 3, 4, 5, 6, 7, 8, 9, 1, 0] rfl ?_
        exact zBM_goWays_144 hG C N hD hd hS hK hr h
set_option maxHeartbeats 2000000 in
theorem zBM_goWays_61 {self : Nat → Int32 → Int32 → Int32 → Int32 → Mem → Option (Mem)} {G : GXM} {X : CxM} (hG : GokM G) (C : CoM G X cM_goWays "HomeFreedModel") (N : mLM X = 10) {d : Nat} (hD : dpM X = d) (hd : 10 ≤ d) (hS : ∀ (v0 : Nat) (v1 : Int32) (v2 : Int32) (v3 : Int32) (v4 : Int32) (M : Mem) (q : Mem), self v0 v1 v2 v3 v4 M = some q → ExM G X.2.1 (d - 1) 0 0 yM_goWays cM_goWays 10 none [.ref v0, .int v1, .int v2, .int v3, .int v4] M none q) {v0 : Nat} {v1 : Int32} {v2 : Int32} {v3 : Int32} {v4 : Int32} {v5 : Int32} {K : Nat → Int32 → Int32 → Int32 → Int32 → Int32 → Int32 → Mem → Option ((Mem))} {q : (Mem)} (hK : ∀ (v6 : Int32) (M : Mem), K v0 v1 v2 v3 v4 v5 v6 M = some q → ZM G X 45 [(0, .ref v0), (1, .int v1), (2, .int v2), (3, .int v3), (4, .int v4), (5, .int v5), (6, .int v6)] [] M 0 0) (hr : ∀ r : Mem, q =  r → EnM G X none none r 0 0) {v6 : Int32} {w0 : Int32} {M : Mem} (h : BM_goWays_61 self K v0 v1 v2 v3 v4 v5 v6 w0 M = some q) : ZM G X 61 [(0, .ref v0), (1, .int v1), (2, .int v2), (3, .int v3), (4, .int v4), (5, .int v5), (6, .int v6)] [.int w0] M 0 0 := by
  unfold BM_goWays_61 at h
  refine zz_istore (L1 := [(7, .int w0), (0, .ref v0), (1, .int v1), (2, .int v2), (3, .int v3), (4, .int v4), (5, .int v5), (6, .int v6)]) C ddM_goWays_61 N (by decide) rfl ?_
  refine zz_iload C 7 ddM_goWays_63 rfl ?_
  refine zz_if_ne (tgt := 72) C ddM_goWays_65 rfl (fun hc => ?_) (fun hc => ?_)
  · replace h := iteF h hc
    refine zz_iload C 5 ddM_goWays_72 rfl ?_
    refine zz_loc (L1 := [(0, .ref v0), (1, .int v1), (2, .int v2), (3, .int v3), (4, .int v4), (5, .int v5), (6, .int v6), (7, .int w0)]) [1, 2, 3, 4, 5, 6, 7, 0] rfl ?_
    exact zBM_goWays_74 hG C N hD hd hS hK hr h
  · replace h := iteT h hc
    refine zz_iload_n C 4 ddM_goWays_68 rfl rfl ?_
    refine zz_goto (tgt := 74) C ddM_goWays_69 rfl ?_
    refine zz_loc (L1 := [(0, .ref v0), (1, .int v1), (2, .int v2), (3, .int v3), (4, .int v4), (5, .int v5), (6, .int v6), (7, .int w0)]) [1, 2, 3, 4, 5, 6, 7, 0] rfl ?_
    exact zBM_goWays_74 hG C N hD hd hS hK hr h
set_option maxHeartbeats 2000000 in
theorem zBM_goWays_45 {self : Nat → Int32 → Int32 → Int32 → Int32 → Mem → Option (Mem)} {G : GXM} {X : CxM} (hG : GokM G) (C : CoM G X cM_goWays "HomeFreedModel") (N : mLM X = 10) {d : Nat} (hD : dpM X = d) (hd : 10 ≤ d) (hS : ∀ (v0 : Nat) (v1 : Int32) (v2 : Int32) (v3 : Int32) (v4 : Int32) (M : Mem) (q : Mem), self v0 v1 v2 v3 v4 M = some q → ExM G X.2.1 (d - 1) 0 0 yM_goWays cM_goWays 10 none [.ref v0, .int v1, .int v2, .int v3, .int v4] M none q) {v0 : Nat} {v1 : Int32} {v2 : Int32} {v3 : Int32} {v4 : Int32} {v5 : Int32} {K : Nat → Int32 → Int32 → Int32 → Int32 → Int32 → Int32 → Mem → Option ((Mem))} {q : (Mem)} (hK : ∀ (v6 : Int32) (M : Mem), K v0 v1 v2 v3 v4 v5 v6 M = some q → ZM G X 45 [(0, .ref v0), (1, .int v1), (2, .int v2), (3, .int v3), (4, .int v4), (5, .int v5), (6, .int v6)] [] M 0 0) (hr : ∀ r : Mem, q =  r → EnM G X none none r 0 0) {v6 : Int32} {M : Mem} (h : BM_goWays_45 self K v0 v1 v2 v3 v4 v5 v6 M = some q) : ZM G X 45 [(0, .ref v0), (1, .int v1), (2, .int v2), (3, .int v3), (4, .int v4), (5, .int v5), (6, .int v6)] [] M 0 0 := by
  unfold BM_goWays_45 at h
  refine zz_iload C 6 ddM_goWays_45 rfl ?_
  refine zz_iconst (v := 2) C ddM_goWays_47 (by decide) ?_
  refine zz_icmp_ge (tgt := 226) C ddM_goWays_48 rfl (fun hc => ?_) (fun hc => ?_)
  · replace h := iteT h hc
    exact zz_vret C (hr _ (Option.some.inj h).symm) ddM_goWays_226
  · replace h := iteF h hc
    refine zz_iload C 6 ddM_goWays_51 rfl ?_
    refine zz_if_ne (tgt := 60) C ddM_goWays_53 rfl (fun hc => ?_) (fun hc => ?_)
    · replace h := iteF h hc
      refine zz_iload_n C 2 ddM_goWays_60 rfl rfl ?_
      exact zBM_goWays_61 hG C N hD hd hS hK hr h
    · replace h := iteT h hc
      refine zz_iload_n C 1 ddM_goWays_56 rfl rfl ?_
      refine zz_goto (tgt := 61) C ddM_goWays_57 rfl ?_
      exact zBM_goWays_61 hG C N hD hd hS hK hr h
set_option maxHeartbeats 2000000 in
theorem zLM_goWays_45 {self : Nat → Int32 → Int32 → Int32 → Int32 → Mem → Option (Mem)} {G : GXM} {X : CxM} (hG : GokM G) (C : CoM G X cM_goWays "HomeFreedModel") (N : mLM X = 10) {d : Nat} (hD : dpM X = d) (hd : 10 ≤ d) (hS : ∀ (v0 : Nat) (v1 : Int32) (v2 : Int32) (v3 : Int32) (v4 : Int32) (M : Mem) (q : Mem), self v0 v1 v2 v3 v4 M = some q → ExM G X.2.1 (d - 1) 0 0 yM_goWays cM_goWays 10 none [.ref v0, .int v1, .int v2, .int v3, .int v4] M none q) {v0 : Nat} {v1 : Int32} {v2 : Int32} {v3 : Int32} {v4 : Int32} {v5 : Int32} {q : (Mem)} : ∀ (f : Nat) (v6 : Int32) (M : Mem), LM_goWays_45 self f v0 v1 v2 v3 v4 v5 v6 M = some q → (hr : ∀ r : Mem, q =  r → EnM G X none none r 0 0) → ZM G X 45 [(0, .ref v0), (1, .int v1), (2, .int v2), (3, .int v3), (4, .int v4), (5, .int v5), (6, .int v6)] [] M 0 0 := by
  intro f
  induction f with
  | zero => intro v6 M h; cases h
  | succ f ih =>
    intro v6 M h hr
    exact zBM_goWays_45 hG C N hD hd hS (K := LM_goWays_45 self f) (q := q) (fun v6 M h => ih v6 M h hr) hr h
set_option maxHeartbeats 2000000 in
theorem zBM_goWays_36 {self : Nat → Int32 → Int32 → Int32 → Int32 → Mem → Option (Mem)} {G : GXM} {X : CxM} (hG : GokM G) (C : CoM G X cM_goWays "HomeFreedModel") (N : mLM X = 10) {d : Nat} (hD : dpM X = d) (hd : 10 ≤ d) (hS : ∀ (v0 : Nat) (v1 : Int32) (v2 : Int32) (v3 : Int32) (v4 : Int32) (M : Mem) (q : Mem), self v0 v1 v2 v3 v4 M = some q → ExM G X.2.1 (d - 1) 0 0 yM_goWays cM_goWays 10 none [.ref v0, .int v1, .int v2, .int v3, .int v4] M none q)  {q : Mem} (E : EnM G X none none q 0 0) {v0 : Nat} {v1 : Int32} {v2 : Int32} {v3 : Int32} {v4 : Int32} {M : Mem} (h : BM_goWays_36 self v0 v1 v2 v3 v4 M = some q) : ZM G X 36 [(0, .ref v0), (1, .int v1), (2, .int v2), (3, .int v3), (4, .int v4)] [] M 0 0 := by
  unfold BM_goWays_36 at h
  refine zz_iload_n C 3 ddM_goWays_36 rfl rfl ?_
  refine zz_iload C 4 ddM_goWays_37 rfl ?_
  refine zz_iadd C ddM_goWays_39 ?_
  refine zz_istore (L1 := [(5, .int (v3 + v4)), (0, .ref v0), (1, .int v1), (2, .int v2), (3, .int v3), (4, .int v4)]) C ddM_goWays_40 N (by decide) rfl ?_
  refine zz_iconst (v := 0) C ddM_goWays_42 (by decide) ?_
  refine zz_istore (L1 := [(6, .int 0), (5, .int (v3 + v4)), (0, .ref v0), (1, .int v1), (2, .int v2), (3, .int v3), (4, .int v4)]) C ddM_goWays_43 N (by decide) rfl ?_
  refine zz_loc (L1 := [(0, .ref v0), (1, .int v1), (2, .int v2), (3, .int v3), (4, .int v4), (5, .int (v3 + v4)), (6, .int 0)]) [2, 3, 4, 5, 6, 1, 0] rfl ?_
  obtain ⟨q1, hq1, h⟩ := bindN h
  refine zLM_goWays_45 hG C N hD hd hS 1000000 _ _ hq1 ?_
  · intro r2 eq1; replace eq1 := eq1.symm; subst eq1
    obtain rfl := Option.some.inj h
    exact E
set_option maxHeartbeats 2000000 in
theorem xM_goWays {G : GXM} {l : Launch} (hG : GokM G) : ∀ (f d : Nat) (hd : 10 + f ≤ d) (v0 : Nat) (v1 : Int32) (v2 : Int32) (v3 : Int32) (v4 : Int32) (M : Mem) (q : Mem) (h : fM_goWays f v0 v1 v2 v3 v4 M = some q), ExM G l d 0 0 yM_goWays cM_goWays 10 none [.ref v0, .int v1, .int v2, .int v3, .int v4] M none q := by
  intro f
  induction f with
  | zero => intro d hd v0 v1 v2 v3 v4 M q h; cases h
  | succ f ih =>
  intro d hd0 v0 v1 v2 v3 v4 M q h
  refine ex_of hG (by decide +kernel) (Nat.le_of_ble_eq_true rfl) ?_
  intro X hl C E N hD hn
  have hS := fun v0 v1 v2 v3 v4 M q h => hl ▸ ih (d - 1) (by omega) v0 v1 v2 v3 v4 M q h
  have hd : 10 ≤ d := by omega
  show ZM G X 0 [(0, .ref v0), (1, .int v1), (2, .int v2), (3, .int v3), (4, .int v4)] [] M 0 0
  have h : gM_goWays (fM_goWays f) v0 v1 v2 v3 v4 M = some q := h
  unfold gM_goWays at h
  refine zz_iload_n C 3 ddM_goWays_0 rfl rfl ?_
  refine zz_aload_n C 0 ddM_goWays_1 rfl rfl ?_
  obtain ⟨h1, h⟩ := gdN h
  obtain ⟨h2, h⟩ := gdN h
  refine zz_getr C ddM_goWays_2 fl_M_28 rfl h1 (of_decide_eq_true h2) ?_
  refine zz_iload_n C 1 ddM_goWays_5 rfl rfl ?_
  obtain ⟨h3, h⟩ := gdN h
  refine zz_iaload C ddM_goWays_6 h3 ?_
  refine zz_icmp_ne (tgt := 36) C ddM_goWays_7 rfl (fun hc => ?_) (fun hc => ?_)
  · replace h := iteF h hc
    exact zBM_goWays_36 hG C N hD hd hS E h
  · replace h := iteT h hc
    refine zz_iload C 4 ddM_goWays_10 rfl ?_
    refine zz_aload_n C 0 ddM_goWays_12 rfl rfl ?_
    refine zz_getr C ddM_goWays_13 fl_M_28 rfl h1 (of_decide_eq_true h2) ?_
    refine zz_iload_n C 2 ddM_goWays_16 rfl rfl ?_
    obtain ⟨h4, h⟩ := gdN h
    refine zz_iaload C ddM_goWays_17 h4 ?_
    refine zz_icmp_ne (tgt := 36) C ddM_goWays_18 rfl (fun hc => ?_) (fun hc => ?_)
    · replace h := iteF h hc
      exact zBM_goWays_36 hG C N hD hd hS E h
    · replace h := iteT h hc
      refine zz_aload_n C 0 ddM_goWays_21 rfl rfl ?_
      refine zz_dup C ddM_goWays_22 rfl ?_
      refine zz_geti C ddM_goWays_23 fl_M_377 rfl h1 ?_
      refine zz_iconst (v := 1) C ddM_goWays_26 (by decide) ?_
      refine zz_iadd C ddM_goWays_27 ?_
      refine zz_puti C ddM_goWays_28 fl_M_377 rfl rfl rfl h1 ?_
      refine zz_aload_n C 0 ddM_goWays_31 rfl rfl ?_
      obtain ⟨q5, hq5, h⟩ := bindN h
      refine zz_callV0 (As := []) C ddM_goWays_32 wd_1714 my_M_endWay mv_M_endWay ⟨_, rfl, rfl⟩ (xM_endWay hG (d - 1) (by omega) hq5) (by omega) h1 rfl rfl (Nat.le_of_ble_eq_true rfl) ?_
      obtain rfl := Option.some.inj h
      exact zz_vret C E ddM_goWays_35
theorem ddM_ways_0 : decode cM_ways 0 = .ok (.aload_n 0, 1) := by decide +kernel
theorem ddM_ways_1 : decode cM_ways 1 = .ok (.iload_n 1, 1) := by decide +kernel
theorem ddM_ways_2 : decode cM_ways 2 = .ok (.invokevirtual 321, 3) := by decide +kernel
theorem ddM_ways_5 : decode cM_ways 5 = .ok (.ifCond .eq 41, 3) := by decide +kernel
theorem ddM_ways_8 : decode cM_ways 8 = .ok (.aload_n 0, 1) := by decide +kernel
theorem ddM_ways_9 : decode cM_ways 9 = .ok (.iload_n 2, 1) := by decide +kernel
theorem ddM_ways_10 : decode cM_ways 10 = .ok (.invokevirtual 321, 3) := by decide +kernel
theorem ddM_ways_13 : decode cM_ways 13 = .ok (.ifCond .eq 33, 3) := by decide +kernel
theorem ddM_ways_16 : decode cM_ways 16 = .ok (.iload_n 1, 1) := by decide +kernel
theorem ddM_ways_17 : decode cM_ways 17 = .ok (.iload_n 2, 1) := by decide +kernel
theorem ddM_ways_18 : decode cM_ways 18 = .ok (.if_icmp .eq 28, 3) := by decide +kernel
theorem ddM_ways_21 : decode cM_ways 21 = .ok (.aload_n 0, 1) := by decide +kernel
theorem ddM_ways_22 : decode cM_ways 22 = .ok (.iload_n 1, 1) := by decide +kernel
theorem ddM_ways_23 : decode cM_ways 23 = .ok (.invokevirtual 387, 3) := by decide +kernel
theorem ddM_ways_26 : decode cM_ways 26 = .ok (.ifCond .eq 20, 3) := by decide +kernel
theorem ddM_ways_29 : decode cM_ways 29 = .ok (.aload_n 0, 1) := by decide +kernel
theorem ddM_ways_30 : decode cM_ways 30 = .ok (.iload_n 2, 1) := by decide +kernel
theorem ddM_ways_31 : decode cM_ways 31 = .ok (.invokevirtual 387, 3) := by decide +kernel
theorem ddM_ways_34 : decode cM_ways 34 = .ok (.ifCond .eq 12, 3) := by decide +kernel
theorem ddM_ways_37 : decode cM_ways 37 = .ok (.iload_n 3, 1) := by decide +kernel
theorem ddM_ways_38 : decode cM_ways 38 = .ok (.iconst 0, 1) := by decide +kernel
theorem ddM_ways_39 : decode cM_ways 39 = .ok (.iconst 3, 1) := by decide +kernel
theorem ddM_ways_40 : decode cM_ways 40 = .ok (.invokestatic 75, 3) := by decide +kernel
theorem ddM_ways_43 : decode cM_ways 43 = .ok (.ifCond .ne 5, 3) := by decide +kernel
theorem ddM_ways_46 : decode cM_ways 46 = .ok (.iconst (-1), 1) := by decide +kernel
theorem ddM_ways_47 : decode cM_ways 47 = .ok (.ireturn, 1) := by decide +kernel
theorem ddM_ways_48 : decode cM_ways 48 = .ok (.aload_n 0, 1) := by decide +kernel
theorem ddM_ways_49 : decode cM_ways 49 = .ok (.iconst 1, 1) := by decide +kernel
theorem ddM_ways_50 : decode cM_ways 50 = .ok (.putfield 390, 3) := by decide +kernel
theorem ddM_ways_53 : decode cM_ways 53 = .ok (.iconst 1, 1) := by decide +kernel
theorem ddM_ways_54 : decode cM_ways 54 = .ok (.istore 4, 2) := by decide +kernel
theorem ddM_ways_56 : decode cM_ways 56 = .ok (.iload 4, 2) := by decide +kernel
theorem ddM_ways_58 : decode cM_ways 58 = .ok (.aload_n 0, 1) := by decide +kernel
theorem ddM_ways_59 : decode cM_ways 59 = .ok (.getfield 28, 3) := by decide +kernel
theorem ddM_ways_62 : decode cM_ways 62 = .ok (.iload_n 2, 1) := by decide +kernel
theorem ddM_ways_63 : decode cM_ways 63 = .ok (.iaload, 1) := by decide +kernel
theorem ddM_ways_64 : decode cM_ways 64 = .ok (.if_icmp .gt 30, 3) := by decide +kernel
theorem ddM_ways_67 : decode cM_ways 67 = .ok (.aload_n 0, 1) := by decide +kernel
theorem ddM_ways_68 : decode cM_ways 68 = .ok (.aload_n 0, 1) := by decide +kernel
theorem ddM_ways_69 : decode cM_ways 69 = .ok (.getfield 390, 3) := by decide +kernel
theorem ddM_ways_72 : decode cM_ways 72 = .ok (.aload_n 0, 1) := by decide +kernel
theorem ddM_ways_73 : decode cM_ways 73 = .ok (.getfield 28, 3) := by decide +kernel
theorem ddM_ways_76 : decode cM_ways 76 = .ok (.iload_n 1, 1) := by decide +kernel
theorem ddM_ways_77 : decode cM_ways 77 = .ok (.iaload, 1) := by decide +kernel
theorem ddM_ways_78 : decode cM_ways 78 = .ok (.iload 4, 2) := by decide +kernel
theorem ddM_ways_80 : decode cM_ways 80 = .ok (.iadd, 1) := by decide +kernel
theorem ddM_ways_81 : decode cM_ways 81 = .ok (.imul, 1) := by decide +kernel
theorem ddM_ways_82 : decode cM_ways 82 = .ok (.iload 4, 2) := by decide +kernel
theorem ddM_ways_84 : decode cM_ways 84 = .ok (.idiv, 1) := by decide +kernel
theorem ddM_ways_85 : decode cM_ways 85 = .ok (.putfield 390, 3) := by decide +kernel
theorem ddM_ways_88 : decode cM_ways 88 = .ok (.iinc 4 1, 3) := by decide +kernel
theorem ddM_ways_91 : decode cM_ways 91 = .ok (.goto (-35), 3) := by decide +kernel
theorem ddM_ways_94 : decode cM_ways 94 = .ok (.aload_n 0, 1) := by decide +kernel
theorem ddM_ways_95 : decode cM_ways 95 = .ok (.iconst 0, 1) := by decide +kernel
theorem ddM_ways_96 : decode cM_ways 96 = .ok (.putfield 377, 3) := by decide +kernel
theorem ddM_ways_99 : decode cM_ways 99 = .ok (.aload_n 0, 1) := by decide +kernel
theorem ddM_ways_100 : decode cM_ways 100 = .ok (.iconst 0, 1) := by decide +kernel
theorem ddM_ways_101 : decode cM_ways 101 = .ok (.putfield 363, 3) := by decide +kernel
theorem ddM_ways_104 : decode cM_ways 104 = .ok (.aload_n 0, 1) := by decide +kernel
theorem ddM_ways_105 : decode cM_ways 105 = .ok (.iconst (-1), 1) := by decide +kernel
theorem ddM_ways_106 : decode cM_ways 106 = .ok (.putfield 371, 3) := by decide +kernel
theorem ddM_ways_109 : decode cM_ways 109 = .ok (.aload_n 0, 1) := by decide +kernel
theorem ddM_ways_110 : decode cM_ways 110 = .ok (.getfield 50, 3) := by decide +kernel
theorem ddM_ways_113 : decode cM_ways 113 = .ok (.iconst 0, 1) := by decide +kernel
theorem ddM_ways_114 : decode cM_ways 114 = .ok (.iconst 0, 1) := by decide +kernel
theorem ddM_ways_115 : decode cM_ways 115 = .ok (.iastore, 1) := by decide +kernel
theorem ddM_ways_116 : decode cM_ways 116 = .ok (.aload_n 0, 1) := by decide +kernel
theorem ddM_ways_117 : decode cM_ways 117 = .ok (.getfield 50, 3) := by decide +kernel
theorem ddM_ways_120 : decode cM_ways 120 = .ok (.iconst 1, 1) := by decide +kernel
theorem ddM_ways_121 : decode cM_ways 121 = .ok (.iconst 0, 1) := by decide +kernel
theorem ddM_ways_122 : decode cM_ways 122 = .ok (.iastore, 1) := by decide +kernel
theorem ddM_ways_123 : decode cM_ways 123 = .ok (.aload_n 0, 1) := by decide +kernel
theorem ddM_ways_124 : decode cM_ways 124 = .ok (.iconst 0, 1) := by decide +kernel
theorem ddM_ways_125 : decode cM_ways 125 = .ok (.putfield 266, 3) := by decide +kernel
theorem ddM_ways_128 : decode cM_ways 128 = .ok (.aload_n 0, 1) := by decide +kernel
theorem ddM_ways_129 : decode cM_ways 129 = .ok (.iload_n 1, 1) := by decide +kernel
theorem ddM_ways_130 : decode cM_ways 130 = .ok (.iload_n 2, 1) := by decide +kernel
theorem ddM_ways_131 : decode cM_ways 131 = .ok (.iconst 0, 1) := by decide +kernel
theorem ddM_ways_132 : decode cM_ways 132 = .ok (.iconst 0, 1) := by decide +kernel
theorem ddM_ways_133 : decode cM_ways 133 = .ok (.invokevirtual 383, 3) := by decide +kernel
theorem ddM_ways_136 : decode cM_ways 136 = .ok (.iload_n 3, 1) := by decide +kernel
theorem ddM_ways_137 : decode cM_ways 137 = .ok (.ifCond .ne 10, 3) := by decide +kernel
theorem ddM_ways_140 : decode cM_ways 140 = .ok (.aload_n 0, 1) := by decide +kernel
theorem ddM_ways_141 : decode cM_ways 141 = .ok (.getfield 390, 3) := by decide +kernel
theorem ddM_ways_144 : decode cM_ways 144 = .ok (.goto 31, 3) := by decide +kernel
theorem ddM_ways_147 : decode cM_ways 147 = .ok (.iload_n 3, 1) := by decide +kernel
theorem ddM_ways_148 : decode cM_ways 148 = .ok (.iconst 1, 1) := by decide +kernel
theorem ddM_ways_149 : decode cM_ways 149 = .ok (.if_icmp .ne 10, 3) := by decide +kernel
theorem ddM_ways_152 : decode cM_ways 152 = .ok (.aload_n 0, 1) := by decide +kernel
theorem ddM_ways_153 : decode cM_ways 153 = .ok (.getfield 377, 3) := by decide +kernel
theorem ddM_ways_156 : decode cM_ways 156 = .ok (.goto 19, 3) := by decide +kernel
theorem ddM_ways_159 : decode cM_ways 159 = .ok (.iload_n 3, 1) := by decide +kernel
theorem ddM_ways_160 : decode cM_ways 160 = .ok (.iconst 2, 1) := by decide +kernel
theorem ddM_ways_161 : decode cM_ways 161 = .ok (.if_icmp .ne 10, 3) := by decide +kernel
theorem ddM_ways_164 : decode cM_ways 164 = .ok (.aload_n 0, 1) := by decide +kernel
theorem ddM_ways_165 : decode cM_ways 165 = .ok (.getfield 363, 3) := by decide +kernel
theorem ddM_ways_168 : decode cM_ways 168 = .ok (.goto 7, 3) := by decide +kernel
theorem ddM_ways_171 : decode cM_ways 171 = .ok (.aload_n 0, 1) := by decide +kernel
theorem ddM_ways_172 : decode cM_ways 172 = .ok (.getfield 371, 3) := by decide +kernel
theorem ddM_ways_175 : decode cM_ways 175 = .ok (.ireturn, 1) := by decide +kernel
set_option maxHeartbeats 2000000 in
theorem zBM_ways_175 {G : GXM} {X : CxM} (hG : GokM G) (C : CoM G X cM_ways "HomeFreedModel") (N : mLM X = 5) {d : Nat} (hD : dpM X = d) (hd : 31 ≤ d)  {q : Int32 × Mem} (E : EnM G X (some .int) (some (.int q.1)) q.2 0 0) {w0 : Int32} {M : Mem} (h : BM_ways_175 w0 M = some q) : ZM G X 175 [] [.int w0] M 0 0 := by
  unfold BM_ways_175 at h
  obtain rfl := Option.some.inj h
  exact zz_iret C E ddM_ways_175
set_option maxHeartbeats 2000000 in
theorem zBM_ways_56 {G : GXM} {X : CxM} (hG : GokM G) (C : CoM G X cM_ways "HomeFreedModel") (N : mLM X = 5) {d : Nat} (hD : dpM X = d) (hd : 31 ≤ d) {v0 : Nat} {v1 : Int32} {v2 : Int32} {v3 : Int32} {K : Nat → Int32 → Int32 → Int32 → Int32 → Mem → Option ((Mem))} {q : (Mem)} (hK : ∀ (v4 : Int32) (M : Mem), K v0 v1 v2 v3 v4 M = some q → ZM G X 56 [(0, .ref v0), (1, .int v1), (2, .int v2), (3, .int v3), (4, .int v4)] [] M 0 0) (hx0 : ∀ y : Mem, q = y → ZM G X 94 [(0, .ref v0), (1, .int v1), (2, .int v2), (3, .int v3)] [] y 0 0) {v4 : Int32} {M : Mem} (h : BM_ways_56 K v0 v1 v2 v3 v4 M = some q) : ZM G X 56 [(0, .ref v0), (1, .int v1), (2, .int v2), (3, .int v3), (4, .int v4)] [] M 0 0 := by
  unfold BM_ways_56 at h
  refine zz_iload C 4 ddM_ways_56 rfl ?_
  refine zz_aload_n C 0 ddM_ways_58 rfl rfl ?_
  obtain ⟨h1, h⟩ := gdN h
  obtain ⟨h2, h⟩ := gdN h
  refine zz_getr C ddM_ways_59 fl_M_28 rfl h1 (of_decide_eq_true h2) ?_
  refine zz_iload_n C 2 ddM_ways_62 rfl rfl ?_
  obtain ⟨h3, h⟩ := gdN h
  refine zz_iaload C ddM_ways_63 h3 ?_
  refine zz_icmp_gt (tgt := 94) C ddM_ways_64 rfl (fun hc => ?_) (fun hc => ?_)
  · replace h := iteT h hc
    refine zz_loc (L1 := [(0, .ref v0), (1, .int v1), (2, .int v2), (3, .int v3)]) [0, 1, 2, 3] rfl ?_
    exact hx0 _ (Option.some.inj h).symm
  · replace h := iteF h hc
    refine zz_aload_n C 0 ddM_ways_67 rfl rfl ?_
    refine zz_aload_n C 0 ddM_ways_68 rfl rfl ?_
    refine zz_geti C ddM_ways_69 fl_M_390 rfl h1 ?_
    refine zz_aload_n C 0 ddM_ways_72 rfl rfl ?_
    refine zz_getr C ddM_ways_73 fl_M_28 rfl h1 (of_decide_eq_true h2) ?_
    refine zz_iload_n C 1 ddM_ways_76 rfl rfl ?_
    obtain ⟨h4, h⟩ := gdN h
    refine zz_iaload C ddM_ways_77 h4 ?_
    refine zz_iload C 4 ddM_ways_78 rfl ?_
    refine zz_iadd C ddM_ways_80 ?_
    refine zz_imul C ddM_ways_81 ?_
    refine zz_iload C 4 ddM_ways_82 rfl ?_
    obtain ⟨h5, h⟩ := gdN h
    refine zz_idiv C ddM_ways_84 (of_decide_eq_true h5) ?_
    refine zz_puti C ddM_ways_85 fl_M_390 rfl rfl rfl h1 ?_
    refine zz_iinc (v := v4 + 1) (L1 := [(4, .int (v4 + 1)), (0, .ref v0), (1, .int v1), (2, .int v2), (3, .int v3)]) C 4 ddM_ways_88 rfl rfl N (by decide) rfl ?_
    refine zz_goto (tgt := 56) C ddM_ways_91 rfl ?_
    refine zz_loc (L1 := [(0, .ref v0), (1, .int v1), (2, .int v2), (3, .int v3), (4, .int (v4 + 1))]) [1, 2, 3, 4, 0] rfl ?_
    exact hK _ _ h
set_option maxHeartbeats 2000000 in
theorem zLM_ways_56 {G : GXM} {X : CxM} (hG : GokM G) (C : CoM G X cM_ways "HomeFreedModel") (N : mLM X = 5) {d : Nat} (hD : dpM X = d) (hd : 31 ≤ d) {v0 : Nat} {v1 : Int32} {v2 : Int32} {v3 : Int32} {q : (Mem)} : ∀ (f : Nat) (v4 : Int32) (M : Mem), LM_ways_56 f v0 v1 v2 v3 v4 M = some q → (hx0 : ∀ y : Mem, q = y → ZM G X 94 [(0, .ref v0), (1, .int v1), (2, .int v2), (3, .int v3)] [] y 0 0) → ZM G X 56 [(0, .ref v0), (1, .int v1), (2, .int v2), (3, .int v3), (4, .int v4)] [] M 0 0 := by
  intro f
  induction f with
  | zero => intro v4 M h; cases h
  | succ f ih =>
    intro v4 M h hx0
    exact zBM_ways_56 hG C N hD hd (K := LM_ways_56 f) (q := q) (fun v4 M h => ih v4 M h hx0) hx0 h
set_option maxHeartbeats 2000000 in
theorem zBM_ways_46 {G : GXM} {X : CxM} (hG : GokM G) (C : CoM G X cM_ways "HomeFreedModel") (N : mLM X = 5) {d : Nat} (hD : dpM X = d) (hd : 31 ≤ d)  {q : Int32 × Mem} (E : EnM G X (some .int) (some (.int q.1)) q.2 0 0) {M : Mem} (h : BM_ways_46 M = some q) : ZM G X 46 [] [] M 0 0 := by
  unfold BM_ways_46 at h
  refine zz_iconst (v := (-1)) C ddM_ways_46 (by decide) ?_
  obtain rfl := Option.some.inj h
  exact zz_iret C E ddM_ways_47
set_option maxHeartbeats 2000000 in
theorem xM_ways {G : GXM} {l : Launch} (hG : GokM G) (d : Nat) (hd : 31 ≤ d) {v0 : Nat} {v1 : Int32} {v2 : Int32} {v3 : Int32} {M : Mem} {q : Int32 × Mem} (h : fM_ways v0 v1 v2 v3 M = some q) : ExM G l d 0 0 yM_ways cM_ways 5 (some .int) [.ref v0, .int v1, .int v2, .int v3] M (some (.int q.1)) q.2 := by
  refine ex_of hG (by decide +kernel) (Nat.le_of_ble_eq_true rfl) ?_
  intro X hl C E N hD hn
  show ZM G X 0 [(0, .ref v0), (1, .int v1), (2, .int v2), (3, .int v3)] [] M 0 0
  unfold fM_ways at h
  refine zz_aload_n C 0 ddM_ways_0 rfl rfl ?_
  refine zz_iload_n C 1 ddM_ways_1 rfl rfl ?_
  obtain ⟨h2, h⟩ := gdN h
  obtain ⟨q1, hq1, h⟩ := bindN h
  refine zz_callV0 (As := [.int v1]) C ddM_ways_2 wd_1587 my_M_isScript mv_M_isScript ⟨_, rfl, rfl⟩ (xM_isScript hG (d - 1) (by omega) hq1) (by omega) h2 rfl rfl (Nat.le_of_ble_eq_true rfl) ?_
  refine zz_if_eq (tgt := 46) C ddM_ways_5 rfl (fun hc => ?_) (fun hc => ?_)
  · replace h := iteT h hc
    refine zz_loc (L1 := []) [] rfl ?_
    exact zBM_ways_46 hG C N hD hd E h
  · replace h := iteF h hc
    refine zz_aload_n C 0 ddM_ways_8 rfl rfl ?_
    refine zz_iload_n C 2 ddM_ways_9 rfl rfl ?_
    obtain ⟨h4, h⟩ := gdN h
    obtain ⟨q3, hq3, h⟩ := bindN h
    refine zz_callV0 (As := [.int v2]) C ddM_ways_10 wd_1587 my_M_isScript mv_M_isScript ⟨_, rfl, rfl⟩ (xM_isScript hG (d - 1) (by omega) hq3) (by omega) h4 rfl rfl (Nat.le_of_ble_eq_true rfl) ?_
    refine zz_if_eq (tgt := 46) C ddM_ways_13 rfl (fun hc => ?_) (fun hc => ?_)
    · replace h := iteT h hc
      refine zz_loc (L1 := []) [] rfl ?_
      exact zBM_ways_46 hG C N hD hd E h
    · replace h := iteF h hc
      refine zz_iload_n C 1 ddM_ways_16 rfl rfl ?_
      refine zz_iload_n C 2 ddM_ways_17 rfl rfl ?_
      refine zz_icmp_eq (tgt := 46) C ddM_ways_18 rfl (fun hc => ?_) (fun hc => ?_)
      · replace h := iteT h hc
        refine zz_loc (L1 := []) [] rfl ?_
        exact zBM_ways_46 hG C N hD hd E h
      · replace h := iteF h hc
        refine zz_aload_n C 0 ddM_ways_21 rfl rfl ?_
        refine zz_iload_n C 1 ddM_ways_22 rfl rfl ?_
        obtain ⟨h6, h⟩ := gdN h
        obtain ⟨q5, hq5, h⟩ := bindN h
        refine zz_callV0 (As := [.int v1]) C ddM_ways_23 wd_1706 my_M_isFew mv_M_isFew ⟨_, rfl, rfl⟩ (xM_isFew hG (d - 1) (by omega) hq5) (by omega) h6 rfl rfl (Nat.le_of_ble_eq_true rfl) ?_
        refine zz_if_eq (tgt := 46) C ddM_ways_26 rfl (fun hc => ?_) (fun hc => ?_)
        · replace h := iteT h hc
          refine zz_loc (L1 := []) [] rfl ?_
          exact zBM_ways_46 hG C N hD hd E h
        · replace h := iteF h hc
          refine zz_aload_n C 0 ddM_ways_29 rfl rfl ?_
          refine zz_iload_n C 2 ddM_ways_30 rfl rfl ?_
          obtain ⟨h8, h⟩ := gdN h
          obtain ⟨q7, hq7, h⟩ := bindN h
          refine zz_callV0 (As := [.int v2]) C ddM_ways_31 wd_1706 my_M_isFew mv_M_isFew ⟨_, rfl, rfl⟩ (xM_isFew hG (d - 1) (by omega) hq7) (by omega) h8 rfl rfl (Nat.le_of_ble_eq_true rfl) ?_
          refine zz_if_eq (tgt := 46) C ddM_ways_34 rfl (fun hc => ?_) (fun hc => ?_)
          · replace h := iteT h hc
            refine zz_loc (L1 := []) [] rfl ?_
            exact zBM_ways_46 hG C N hD hd E h
          · replace h := iteF h hc
            refine zz_iload_n C 3 ddM_ways_37 rfl rfl ?_
            refine zz_iconst (v := 0) C ddM_ways_38 (by decide) ?_
            refine zz_iconst (v := 3) C ddM_ways_39 (by decide) ?_
            obtain ⟨q9, hq9, h⟩ := bindN h
            refine zz_callS0 (As := [.int v3, .int 0, .int 3]) C ddM_ways_40 wd_1289 my_M_in mv_M_in (xM_in hG (d - 1) (by omega) hq9) (by omega) rfl rfl (Nat.le_of_ble_eq_true rfl) ?_
            refine zz_if_ne (tgt := 48) C ddM_ways_43 rfl (fun hc => ?_) (fun hc => ?_)
            · replace h := iteF h hc
              refine zz_aload_n C 0 ddM_ways_48 rfl rfl ?_
              refine zz_iconst (v := 1) C ddM_ways_49 (by decide) ?_
              obtain ⟨h10, h⟩ := gdN h
              refine zz_puti C ddM_ways_50 fl_M_390 rfl rfl rfl h10 ?_
              refine zz_iconst (v := 1) C ddM_ways_53 (by decide) ?_
              refine zz_istore (L1 := [(4, .int 1), (0, .ref v0), (1, .int v1), (2, .int v2), (3, .int v3)]) C ddM_ways_54 N (by decide) rfl ?_
              refine zz_loc (L1 := [(0, .ref v0), (1, .int v1), (2, .int v2), (3, .int v3), (4, .int 1)]) [1, 2, 3, 4, 0] rfl ?_
              obtain ⟨q11, hq11, h⟩ := bindN h
              refine zLM_ways_56 hG C N hD hd 1000000 _ _ hq11 ?_
              · intro y12 eq11; replace eq11 := eq11.symm; subst eq11
                refine zz_aload_n C 0 ddM_ways_94 rfl rfl ?_
                refine zz_iconst (v := 0) C ddM_ways_95 (by decide) ?_
                obtain ⟨h13, h⟩ := gdN h
                refine zz_puti C ddM_ways_96 fl_M_377 rfl rfl rfl h13 ?_
                refine zz_aload_n C 0 ddM_ways_99 rfl rfl ?_
                refine zz_iconst (v := 0) C ddM_ways_100 (by decide) ?_
                refine zz_puti C ddM_ways_101 fl_M_363 rfl rfl rfl h13 ?_
                refine zz_aload_n C 0 ddM_ways_104 rfl rfl ?_
                refine zz_iconst (v := (-1)) C ddM_ways_105 (by decide) ?_
                refine zz_puti C ddM_ways_106 fl_M_371 rfl rfl rfl h13 ?_
                refine zz_aload_n C 0 ddM_ways_109 rfl rfl ?_
                obtain ⟨h14, h⟩ := gdN h
                refine zz_getr C ddM_ways_110 fl_M_50 rfl h13 (of_decide_eq_true h14) ?_
                refine zz_iconst (v := 0) C ddM_ways_113 (by decide) ?_
                refine zz_iconst (v := 0) C ddM_ways_114 (by decide) ?_
                obtain ⟨h15, h⟩ := gdN h
                refine zz_iastore C ddM_ways_115 h15 ?_
                refine zz_aload_n C 0 ddM_ways_116 rfl rfl ?_
                refine zz_getr C ddM_ways_117 fl_M_50 rfl h13 (of_decide_eq_true h14) ?_
                refine zz_iconst (v := 1) C ddM_ways_120 (by decide) ?_
                refine zz_iconst (v := 0) C ddM_ways_121 (by decide) ?_
                obtain ⟨h16, h⟩ := gdN h
                refine zz_iastore C ddM_ways_122 h16 ?_
                refine zz_aload_n C 0 ddM_ways_123 rfl rfl ?_
                refine zz_iconst (v := 0) C ddM_ways_124 (by decide) ?_
                refine zz_puti C ddM_ways_125 fl_M_266 rfl rfl rfl h13 ?_
                refine zz_aload_n C 0 ddM_ways_128 rfl rfl ?_
                refine zz_iload_n C 1 ddM_ways_129 rfl rfl ?_
                refine zz_iload_n C 2 ddM_ways_130 rfl rfl ?_
                refine zz_iconst (v := 0) C ddM_ways_131 (by decide) ?_
                refine zz_iconst (v := 0) C ddM_ways_132 (by decide) ?_
                obtain ⟨q17, hq17, h⟩ := bindN h
                refine zz_callV0 (As := [.int v1, .int v2, .int 0, .int 0]) C ddM_ways_133 wd_1710 my_M_goWays mv_M_goWays ⟨_, rfl, rfl⟩ (xM_goWays hG 20 (d - 1) (by omega) _ _ _ _ _ _ _ hq17) (by omega) h13 rfl rfl (Nat.le_of_ble_eq_true rfl) ?_
                refine zz_iload_n C 3 ddM_ways_136 rfl rfl ?_
                refine zz_if_ne (tgt := 147) C ddM_ways_137 rfl (fun hc => ?_) (fun hc => ?_)
                · replace h := iteF h hc
                  refine zz_iload_n C 3 ddM_ways_147 rfl rfl ?_
                  refine zz_iconst (v := 1) C ddM_ways_148 (by decide) ?_
                  refine zz_icmp_ne (tgt := 159) C ddM_ways_149 rfl (fun hc => ?_) (fun hc => ?_)
                  · replace h := iteF h hc
                    refine zz_iload_n C 3 ddM_ways_159 rfl rfl ?_
                    refine zz_iconst (v := 2) C ddM_ways_160 (by decide) ?_
                    refine zz_icmp_ne (tgt := 171) C ddM_ways_161 rfl (fun hc => ?_) (fun hc => ?_)
                    · replace h := iteF h hc
                      refine zz_aload_n C 0 ddM_ways_171 rfl rfl ?_
                      obtain ⟨h18, h⟩ := gdN h
                      refine zz_geti C ddM_ways_172 fl_M_371 rfl h18 ?_
                      refine zz_loc (L1 := []) [] rfl ?_
                      exact zBM_ways_175 hG C N hD hd E h
                    · replace h := iteT h hc
                      refine zz_aload_n C 0 ddM_ways_164 rfl rfl ?_
                      obtain ⟨h19, h⟩ := gdN h
                      refine zz_geti C ddM_ways_165 fl_M_363 rfl h19 ?_
                      refine zz_goto (tgt := 175) C ddM_ways_168 rfl ?_
                      refine zz_loc (L1 := []) [] rfl ?_
                      exact zBM_ways_175 hG C N hD hd E h
                  · replace h := iteT h hc
                    refine zz_aload_n C 0 ddM_ways_152 rfl rfl ?_
                    obtain ⟨h20, h⟩ := gdN h
                    refine zz_geti C ddM_ways_153 fl_M_377 rfl h20 ?_
                    refine zz_goto (tgt := 175) C ddM_ways_156 rfl ?_
                    refine zz_loc (L1 := []) [] rfl ?_
                    exact zBM_ways_175 hG C N hD hd E h
                · replace h := iteT h hc
                  refine zz_aload_n C 0 ddM_ways_140 rfl rfl ?_
                  obtain ⟨h21, h⟩ := gdN h
                  refine zz_geti C ddM_ways_141 fl_M_390 rfl h21 ?_
                  refine zz_goto (tgt := 175) C ddM_ways_144 rfl ?_
                  refine zz_loc (L1 := []) [] rfl ?_
                  exact zBM_ways_175 hG C N hD hd E h
            · replace h := iteT h hc
              refine zz_loc (L1 := []) [] rfl ?_
              exact zBM_ways_46 hG C N hD hd E h
theorem ddM_usedBy_0 : decode cM_usedBy 0 = .ok (.iconst 0, 1) := by decide +kernel
theorem ddM_usedBy_1 : decode cM_usedBy 1 = .ok (.istore_n 2, 1) := by decide +kernel
theorem ddM_usedBy_2 : decode cM_usedBy 2 = .ok (.iconst 0, 1) := by decide +kernel
theorem ddM_usedBy_3 : decode cM_usedBy 3 = .ok (.istore_n 3, 1) := by decide +kernel
theorem ddM_usedBy_4 : decode cM_usedBy 4 = .ok (.iload_n 3, 1) := by decide +kernel
theorem ddM_usedBy_5 : decode cM_usedBy 5 = .ok (.aload_n 0, 1) := by decide +kernel
theorem ddM_usedBy_6 : decode cM_usedBy 6 = .ok (.getfield 19, 3) := by decide +kernel
theorem ddM_usedBy_9 : decode cM_usedBy 9 = .ok (.iconst 1, 1) := by decide +kernel
theorem ddM_usedBy_10 : decode cM_usedBy 10 = .ok (.iaload, 1) := by decide +kernel
theorem ddM_usedBy_11 : decode cM_usedBy 11 = .ok (.if_icmp .ge 35, 3) := by decide +kernel
theorem ddM_usedBy_14 : decode cM_usedBy 14 = .ok (.iload_n 2, 1) := by decide +kernel
theorem ddM_usedBy_15 : decode cM_usedBy 15 = .ok (.iload_n 1, 1) := by decide +kernel
theorem ddM_usedBy_16 : decode cM_usedBy 16 = .ok (.iconst (-1), 1) := by decide +kernel
theorem ddM_usedBy_17 : decode cM_usedBy 17 = .ok (.if_icmp .eq 12, 3) := by decide +kernel
theorem ddM_usedBy_20 : decode cM_usedBy 20 = .ok (.aload_n 0, 1) := by decide +kernel
theorem ddM_usedBy_21 : decode cM_usedBy 21 = .ok (.iload_n 3, 1) := by decide +kernel
theorem ddM_usedBy_22 : decode cM_usedBy 22 = .ok (.iload_n 1, 1) := by decide +kernel
theorem ddM_usedBy_23 : decode cM_usedBy 23 = .ok (.invokevirtual 253, 3) := by decide +kernel
theorem ddM_usedBy_26 : decode cM_usedBy 26 = .ok (.ifCond .eq 11, 3) := by decide +kernel
theorem ddM_usedBy_29 : decode cM_usedBy 29 = .ok (.aload_n 0, 1) := by decide +kernel
theorem ddM_usedBy_30 : decode cM_usedBy 30 = .ok (.iload_n 3, 1) := by decide +kernel
theorem ddM_usedBy_31 : decode cM_usedBy 31 = .ok (.invokevirtual 201, 3) := by decide +kernel
theorem ddM_usedBy_34 : decode cM_usedBy 34 = .ok (.goto 4, 3) := by decide +kernel
theorem ddM_usedBy_37 : decode cM_usedBy 37 = .ok (.iconst 0, 1) := by decide +kernel
theorem ddM_usedBy_38 : decode cM_usedBy 38 = .ok (.iadd, 1) := by decide +kernel
theorem ddM_usedBy_39 : decode cM_usedBy 39 = .ok (.istore_n 2, 1) := by decide +kernel
theorem ddM_usedBy_40 : decode cM_usedBy 40 = .ok (.iinc 3 1, 3) := by decide +kernel
theorem ddM_usedBy_43 : decode cM_usedBy 43 = .ok (.goto (-39), 3) := by decide +kernel
theorem ddM_usedBy_46 : decode cM_usedBy 46 = .ok (.iload_n 2, 1) := by decide +kernel
theorem ddM_usedBy_47 : decode cM_usedBy 47 = .ok (.ireturn, 1) := by decide +kernel
set_option maxHeartbeats 2000000 in
theorem zBM_usedBy_38 {G : GXM} {X : CxM} (hG : GokM G) (C : CoM G X cM_usedBy "HomeFreedModel") (N : mLM X = 4) {d : Nat} (hD : dpM X = d) (hd : 3 ≤ d) {v0 : Nat} {v1 : Int32} {K : Nat → Int32 → Int32 → Int32 → Mem → Option ((Int32 × Mem))} {q : (Int32 × Mem)} (hK : ∀ (v2 : Int32) (v3 : Int32) (M : Mem), K v0 v1 v2 v3 M = some q → ZM G X 4 [(0, .ref v0), (1, .int v1), (2, .int v2), (3, .int v3)] [] M 0 0) (hr : ∀ r : Int32 × Mem, q =  r → EnM G X (some .int) (some (.int r.1)) r.2 0 0) {v3 : Int32} {w0 : Int32} {w1 : Int32} {M : Mem} (h : BM_usedBy_38 K v0 v1 v3 w0 w1 M = some q) : ZM G X 38 [(0, .ref v0), (1, .int v1), (3, .int v3)] [.int w1, .int w0] M 0 0 := by
  unfold BM_usedBy_38 at h
  refine zz_iadd C ddM_usedBy_38 ?_
  refine zz_istore_n (L1 := [(2, .int (w0 + w1)), (0, .ref v0), (1, .int v1), (3, .int v3)]) C ddM_usedBy_39 rfl N (by decide) rfl ?_
  refine zz_iinc (v := v3 + 1) (L1 := [(3, .int (v3 + 1)), (2, .int (w0 + w1)), (0, .ref v0), (1, .int v1)]) C 3 ddM_usedBy_40 rfl rfl N (by decide) rfl ?_
  refine zz_goto (tgt := 4) C ddM_usedBy_43 rfl ?_
  refine zz_loc (L1 := [(0, .ref v0), (1, .int v1), (2, .int (w0 + w1)), (3, .int (v3 + 1))]) [2, 3, 1, 0] rfl ?_
  exact hK _ _ _ h
set_option maxHeartbeats 2000000 in
theorem zBM_usedBy_29 {G : GXM} {X : CxM} (hG : GokM G) (C : CoM G X cM_usedBy "HomeFreedModel") (N : mLM X = 4) {d : Nat} (hD : dpM X = d) (hd : 3 ≤ d) {v0 : Nat} {v1 : Int32} {K : Nat → Int32 → Int32 → Int32 → Mem → Option ((Int32 × Mem))} {q : (Int32 × Mem)} (hK : ∀ (v2 : Int32) (v3 : Int32) (M : Mem), K v0 v1 v2 v3 M = some q → ZM G X 4 [(0, .ref v0), (1, .int v1), (2, .int v2), (3, .int v3)] [] M 0 0) (hr : ∀ r : Int32 × Mem, q =  r → EnM G X (some .int) (some (.int r.1)) r.2 0 0) {v3 : Int32} {w0 : Int32} {M : Mem} (h : BM_usedBy_29 K v0 v1 v3 w0 M = some q) : ZM G X 29 [(0, .ref v0), (1, .int v1), (3, .int v3)] [.int w0] M 0 0 := by
  unfold BM_usedBy_29 at h
  refine zz_aload_n C 0 ddM_usedBy_29 rfl rfl ?_
  refine zz_iload_n C 2 ddM_usedBy_30 rfl rfl ?_
  obtain ⟨h2, h⟩ := gdN h
  obtain ⟨q1, hq1, h⟩ := bindN h
  refine zz_callV0 (As := [.int v3]) C ddM_usedBy_31 wd_1386 my_M_usedOf mv_M_usedOf ⟨_, rfl, rfl⟩ (xM_usedOf hG (d - 1) (by omega) hq1) (by omega) h2 rfl rfl (Nat.le_of_ble_eq_true rfl) ?_
  refine zz_goto (tgt := 38) C ddM_usedBy_34 rfl ?_
  exact zBM_usedBy_38 hG C N hD hd hK hr h
set_option maxHeartbeats 2000000 in
theorem zBM_usedBy_4 {G : GXM} {X : CxM} (hG : GokM G) (C : CoM G X cM_usedBy "HomeFreedModel") (N : mLM X = 4) {d : Nat} (hD : dpM X = d) (hd : 3 ≤ d) {v0 : Nat} {v1 : Int32} {K : Nat → Int32 → Int32 → Int32 → Mem → Option ((Int32 × Mem))} {q : (Int32 × Mem)} (hK : ∀ (v2 : Int32) (v3 : Int32) (M : Mem), K v0 v1 v2 v3 M = some q → ZM G X 4 [(0, .ref v0), (1, .int v1), (2, .int v2), (3, .int v3)] [] M 0 0) (hr : ∀ r : Int32 × Mem, q =  r → EnM G X (some .int) (some (.int r.1)) r.2 0 0) {v2 : Int32} {v3 : Int32} {M : Mem} (h : BM_usedBy_4 K v0 v1 v2 v3 M = some q) : ZM G X 4 [(0, .ref v0), (1, .int v1), (2, .int v2), (3, .int v3)] [] M 0 0 := by
  unfold BM_usedBy_4 at h
  refine zz_iload_n C 3 ddM_usedBy_4 rfl rfl ?_
  refine zz_aload_n C 0 ddM_usedBy_5 rfl rfl ?_
  obtain ⟨h1, h⟩ := gdN h
  obtain ⟨h2, h⟩ := gdN h
  refine zz_getr C ddM_usedBy_6 fl_M_19 rfl h1 (of_decide_eq_true h2) ?_
  refine zz_iconst (v := 1) C ddM_usedBy_9 (by decide) ?_
  obtain ⟨h3, h⟩ := gdN h
  refine zz_iaload C ddM_usedBy_10 h3 ?_
  refine zz_icmp_ge (tgt := 46) C ddM_usedBy_11 rfl (fun hc => ?_) (fun hc => ?_)
  · replace h := iteT h hc
    refine zz_iload_n C 2 ddM_usedBy_46 rfl rfl ?_
    exact zz_iret C (hr _ (Option.some.inj h).symm) ddM_usedBy_47
  · replace h := iteF h hc
    refine zz_iload_n C 2 ddM_usedBy_14 rfl rfl ?_
    refine zz_iload_n C 1 ddM_usedBy_15 rfl rfl ?_
    refine zz_iconst (v := (-1)) C ddM_usedBy_16 (by decide) ?_
    refine zz_icmp_eq (tgt := 29) C ddM_usedBy_17 rfl (fun hc => ?_) (fun hc => ?_)
    · replace h := iteT h hc
      refine zz_loc (L1 := [(0, .ref v0), (1, .int v1), (3, .int v3)]) [0, 1, 3] rfl ?_
      exact zBM_usedBy_29 hG C N hD hd hK hr h
    · replace h := iteF h hc
      refine zz_aload_n C 0 ddM_usedBy_20 rfl rfl ?_
      refine zz_iload_n C 3 ddM_usedBy_21 rfl rfl ?_
      refine zz_iload_n C 1 ddM_usedBy_22 rfl rfl ?_
      obtain ⟨q4, hq4, h⟩ := bindN h
      refine zz_callV0 (As := [.int v3, .int v1]) C ddM_usedBy_23 wd_1417 my_M_isOf mv_M_isOf ⟨_, rfl, rfl⟩ (xM_isOf hG (d - 1) (by omega) hq4) (by omega) h1 rfl rfl (Nat.le_of_ble_eq_true rfl) ?_
      refine zz_if_eq (tgt := 37) C ddM_usedBy_26 rfl (fun hc => ?_) (fun hc => ?_)
      · replace h := iteT h hc
        refine zz_iconst (v := 0) C ddM_usedBy_37 (by decide) ?_
        refine zz_loc (L1 := [(0, .ref v0), (1, .int v1), (3, .int v3)]) [0, 1, 3] rfl ?_
        exact zBM_usedBy_38 hG C N hD hd hK hr h
      · replace h := iteF h hc
        refine zz_loc (L1 := [(0, .ref v0), (1, .int v1), (3, .int v3)]) [0, 1, 3] rfl ?_
        exact zBM_usedBy_29 hG C N hD hd hK hr h
set_option maxHeartbeats 2000000 in
theorem zLM_usedBy_4 {G : GXM} {X : CxM} (hG : GokM G) (C : CoM G X cM_usedBy "HomeFreedModel") (N : mLM X = 4) {d : Nat} (hD : dpM X = d) (hd : 3 ≤ d) {v0 : Nat} {v1 : Int32} {q : (Int32 × Mem)} : ∀ (f : Nat) (v2 : Int32) (v3 : Int32) (M : Mem), LM_usedBy_4 f v0 v1 v2 v3 M = some q → (hr : ∀ r : Int32 × Mem, q =  r → EnM G X (some .int) (some (.int r.1)) r.2 0 0) → ZM G X 4 [(0, .ref v0), (1, .int v1), (2, .int v2), (3, .int v3)] [] M 0 0 := by
  intro f
  induction f with
  | zero => intro v2 v3 M h; cases h
  | succ f ih =>
    intro v2 v3 M h hr
    exact zBM_usedBy_4 hG C N hD hd (K := LM_usedBy_4 f) (q := q) (fun v2 v3 M h => ih v2 v3 M h hr) hr h
set_option maxHeartbeats 2000000 in
theorem xM_usedBy {G : GXM} {l : Launch} (hG : GokM G) (d : Nat) (hd : 3 ≤ d) {v0 : Nat} {v1 : Int32} {M : Mem} {q : Int32 × Mem} (h : fM_usedBy v0 v1 M = some q) : ExM G l d 0 0 yM_usedBy cM_usedBy 4 (some .int) [.ref v0, .int v1] M (some (.int q.1)) q.2 := by
  refine ex_of hG (by decide +kernel) (Nat.le_of_ble_eq_true rfl) ?_
  intro X hl C E N hD hn
  show ZM G X 0 [(0, .ref v0), (1, .int v1)] [] M 0 0
  unfold fM_usedBy at h
  refine zz_iconst (v := 0) C ddM_usedBy_0 (by decide) ?_
  refine zz_istore_n (L1 := [(2, .int 0), (0, .ref v0), (1, .int v1)]) C ddM_usedBy_1 rfl N (by decide) rfl ?_
  refine zz_iconst (v := 0) C ddM_usedBy_2 (by decide) ?_
  refine zz_istore_n (L1 := [(3, .int 0), (2, .int 0), (0, .ref v0), (1, .int v1)]) C ddM_usedBy_3 rfl N (by decide) rfl ?_
  refine zz_loc (L1 := [(0, .ref v0), (1, .int v1), (2, .int 0), (3, .int 0)]) [2, 3, 1, 0] rfl ?_
  obtain ⟨q1, hq1, h⟩ := bindN h
  refine zLM_usedBy_4 hG C N hD hd 1000000 _ _ _ hq1 ?_
  · intro r2 eq1; replace eq1 := eq1.symm; subst eq1
    obtain rfl := Option.some.inj h
    exact E
theorem ddM_shares_0 : decode cM_shares 0 = .ok (.aload_n 0, 1) := by decide +kernel
theorem ddM_shares_1 : decode cM_shares 1 = .ok (.iload_n 1, 1) := by decide +kernel
theorem ddM_shares_2 : decode cM_shares 2 = .ok (.invokevirtual 163, 3) := by decide +kernel
theorem ddM_shares_5 : decode cM_shares 5 = .ok (.ifCond .eq 14, 3) := by decide +kernel
theorem ddM_shares_8 : decode cM_shares 8 = .ok (.iload_n 2, 1) := by decide +kernel
theorem ddM_shares_9 : decode cM_shares 9 = .ok (.iconst 0, 1) := by decide +kernel
theorem ddM_shares_10 : decode cM_shares 10 = .ok (.sipush 999, 3) := by decide +kernel
theorem ddM_shares_13 : decode cM_shares 13 = .ok (.invokestatic 75, 3) := by decide +kernel
theorem ddM_shares_16 : decode cM_shares 16 = .ok (.ifCond .ne 5, 3) := by decide +kernel
theorem ddM_shares_19 : decode cM_shares 19 = .ok (.iconst (-1), 1) := by decide +kernel
theorem ddM_shares_20 : decode cM_shares 20 = .ok (.ireturn, 1) := by decide +kernel
theorem ddM_shares_21 : decode cM_shares 21 = .ok (.aload_n 0, 1) := by decide +kernel
theorem ddM_shares_22 : decode cM_shares 22 = .ok (.iconst (-1), 1) := by decide +kernel
theorem ddM_shares_23 : decode cM_shares 23 = .ok (.invokevirtual 393, 3) := by decide +kernel
theorem ddM_shares_26 : decode cM_shares 26 = .ok (.ifCond .ne 7, 3) := by decide +kernel
theorem ddM_shares_29 : decode cM_shares 29 = .ok (.iconst 0, 1) := by decide +kernel
theorem ddM_shares_30 : decode cM_shares 30 = .ok (.goto 16, 3) := by decide +kernel
theorem ddM_shares_33 : decode cM_shares 33 = .ok (.iload_n 2, 1) := by decide +kernel
theorem ddM_shares_34 : decode cM_shares 34 = .ok (.aload_n 0, 1) := by decide +kernel
theorem ddM_shares_35 : decode cM_shares 35 = .ok (.iload_n 1, 1) := by decide +kernel
theorem ddM_shares_36 : decode cM_shares 36 = .ok (.invokevirtual 393, 3) := by decide +kernel
theorem ddM_shares_39 : decode cM_shares 39 = .ok (.imul, 1) := by decide +kernel
theorem ddM_shares_40 : decode cM_shares 40 = .ok (.aload_n 0, 1) := by decide +kernel
theorem ddM_shares_41 : decode cM_shares 41 = .ok (.iconst (-1), 1) := by decide +kernel
theorem ddM_shares_42 : decode cM_shares 42 = .ok (.invokevirtual 393, 3) := by decide +kernel
theorem ddM_shares_45 : decode cM_shares 45 = .ok (.idiv, 1) := by decide +kernel
theorem ddM_shares_46 : decode cM_shares 46 = .ok (.ireturn, 1) := by decide +kernel
set_option maxHeartbeats 2000000 in
theorem zBM_shares_46 {G : GXM} {X : CxM} (hG : GokM G) (C : CoM G X cM_shares "HomeFreedModel") (N : mLM X = 3) {d : Nat} (hD : dpM X = d) (hd : 4 ≤ d)  {q : Int32 × Mem} (E : EnM G X (some .int) (some (.int q.1)) q.2 0 0) {w0 : Int32} {M : Mem} (h : BM_shares_46 w0 M = some q) : ZM G X 46 [] [.int w0] M 0 0 := by
  unfold BM_shares_46 at h
  obtain rfl := Option.some.inj h
  exact zz_iret C E ddM_shares_46
set_option maxHeartbeats 2000000 in
theorem zBM_shares_19 {G : GXM} {X : CxM} (hG : GokM G) (C : CoM G X cM_shares "HomeFreedModel") (N : mLM X = 3) {d : Nat} (hD : dpM X = d) (hd : 4 ≤ d)  {q : Int32 × Mem} (E : EnM G X (some .int) (some (.int q.1)) q.2 0 0) {M : Mem} (h : BM_shares_19 M = some q) : ZM G X 19 [] [] M 0 0 := by
  unfold BM_shares_19 at h
  refine zz_iconst (v := (-1)) C ddM_shares_19 (by decide) ?_
  obtain rfl := Option.some.inj h
  exact zz_iret C E ddM_shares_20
set_option maxHeartbeats 2000000 in
theorem xM_shares {G : GXM} {l : Launch} (hG : GokM G) (d : Nat) (hd : 4 ≤ d) {v0 : Nat} {v1 : Int32} {v2 : Int32} {M : Mem} {q : Int32 × Mem} (h : fM_shares v0 v1 v2 M = some q) : ExM G l d 0 0 yM_shares cM_shares 3 (some .int) [.ref v0, .int v1, .int v2] M (some (.int q.1)) q.2 := by
  refine ex_of hG (by decide +kernel) (Nat.le_of_ble_eq_true rfl) ?_
  intro X hl C E N hD hn
  show ZM G X 0 [(0, .ref v0), (1, .int v1), (2, .int v2)] [] M 0 0
  unfold fM_shares at h
  refine zz_aload_n C 0 ddM_shares_0 rfl rfl ?_
  refine zz_iload_n C 1 ddM_shares_1 rfl rfl ?_
  obtain ⟨h2, h⟩ := gdN h
  obtain ⟨q1, hq1, h⟩ := bindN h
  refine zz_callV0 (As := [.int v1]) C ddM_shares_2 wd_1409 my_M_isThread mv_M_isThread ⟨_, rfl, rfl⟩ (xM_isThread hG (d - 1) (by omega) hq1) (by omega) h2 rfl rfl (Nat.le_of_ble_eq_true rfl) ?_
  refine zz_if_eq (tgt := 19) C ddM_shares_5 rfl (fun hc => ?_) (fun hc => ?_)
  · replace h := iteT h hc
    refine zz_loc (L1 := []) [] rfl ?_
    exact zBM_shares_19 hG C N hD hd E h
  · replace h := iteF h hc
    refine zz_iload_n C 2 ddM_shares_8 rfl rfl ?_
    refine zz_iconst (v := 0) C ddM_shares_9 (by decide) ?_
    refine zz_sipush (v := 999) C ddM_shares_10 (by decide) ?_
    obtain ⟨q3, hq3, h⟩ := bindN h
    refine zz_callS0 (As := [.int v2, .int 0, .int 999]) C ddM_shares_13 wd_1289 my_M_in mv_M_in (xM_in hG (d - 1) (by omega) hq3) (by omega) rfl rfl (Nat.le_of_ble_eq_true rfl) ?_
    refine zz_if_ne (tgt := 21) C ddM_shares_16 rfl (fun hc => ?_) (fun hc => ?_)
    · replace h := iteF h hc
      refine zz_aload_n C 0 ddM_shares_21 rfl rfl ?_
      refine zz_iconst (v := (-1)) C ddM_shares_22 (by decide) ?_
      obtain ⟨h5, h⟩ := gdN h
      obtain ⟨q4, hq4, h⟩ := bindN h
      refine zz_callV0 (As := [.int ((-1))]) C ddM_shares_23 wd_1724 my_M_usedBy mv_M_usedBy ⟨_, rfl, rfl⟩ (xM_usedBy hG (d - 1) (by omega) hq4) (by omega) h5 rfl rfl (Nat.le_of_ble_eq_true rfl) ?_
      refine zz_if_ne (tgt := 33) C ddM_shares_26 rfl (fun hc => ?_) (fun hc => ?_)
      · replace h := iteF h hc
        refine zz_iload_n C 2 ddM_shares_33 rfl rfl ?_
        refine zz_aload_n C 0 ddM_shares_34 rfl rfl ?_
        refine zz_iload_n C 1 ddM_shares_35 rfl rfl ?_
        obtain ⟨h7, h⟩ := gdN h
        obtain ⟨q6, hq6, h⟩ := bindN h
        refine zz_callV0 (As := [.int v1]) C ddM_shares_36 wd_1724 my_M_usedBy mv_M_usedBy ⟨_, rfl, rfl⟩ (xM_usedBy hG (d - 1) (by omega) hq6) (by omega) h7 rfl rfl (Nat.le_of_ble_eq_true rfl) ?_
        refine zz_imul C ddM_shares_39 ?_
        refine zz_aload_n C 0 ddM_shares_40 rfl rfl ?_
        refine zz_iconst (v := (-1)) C ddM_shares_41 (by decide) ?_
        obtain ⟨h9, h⟩ := gdN h
        obtain ⟨q8, hq8, h⟩ := bindN h
        refine zz_callV0 (As := [.int ((-1))]) C ddM_shares_42 wd_1724 my_M_usedBy mv_M_usedBy ⟨_, rfl, rfl⟩ (xM_usedBy hG (d - 1) (by omega) hq8) (by omega) h9 rfl rfl (Nat.le_of_ble_eq_true rfl) ?_
        obtain ⟨h10, h⟩ := gdN h
        refine zz_idiv C ddM_shares_45 (of_decide_eq_true h10) ?_
        refine zz_loc (L1 := []) [] rfl ?_
        exact zBM_shares_46 hG C N hD hd E h
      · replace h := iteT h hc
        refine zz_iconst (v := 0) C ddM_shares_29 (by decide) ?_
        refine zz_goto (tgt := 46) C ddM_shares_30 rfl ?_
        refine zz_loc (L1 := []) [] rfl ?_
        exact zBM_shares_46 hG C N hD hd E h
    · replace h := iteT h hc
      refine zz_loc (L1 := []) [] rfl ?_
      exact zBM_shares_19 hG C N hD hd E h
theorem ddM_cheapest_0 : decode cM_cheapest 0 = .ok (.aload_n 0, 1) := by decide +kernel
theorem ddM_cheapest_1 : decode cM_cheapest 1 = .ok (.invokevirtual 160, 3) := by decide +kernel
theorem ddM_cheapest_4 : decode cM_cheapest 4 = .ok (.ifCond .eq 12, 3) := by decide +kernel
theorem ddM_cheapest_7 : decode cM_cheapest 7 = .ok (.iload_n 1, 1) := by decide +kernel
theorem ddM_cheapest_8 : decode cM_cheapest 8 = .ok (.iconst 0, 1) := by decide +kernel
theorem ddM_cheapest_9 : decode cM_cheapest 9 = .ok (.iconst 1, 1) := by decide +kernel
theorem ddM_cheapest_10 : decode cM_cheapest 10 = .ok (.invokestatic 75, 3) := by decide +kernel
theorem ddM_cheapest_13 : decode cM_cheapest 13 = .ok (.ifCond .ne 5, 3) := by decide +kernel
theorem ddM_cheapest_16 : decode cM_cheapest 16 = .ok (.iconst (-1), 1) := by decide +kernel
theorem ddM_cheapest_17 : decode cM_cheapest 17 = .ok (.ireturn, 1) := by decide +kernel
theorem ddM_cheapest_18 : decode cM_cheapest 18 = .ok (.iconst (-1), 1) := by decide +kernel
theorem ddM_cheapest_19 : decode cM_cheapest 19 = .ok (.istore_n 2, 1) := by decide +kernel
theorem ddM_cheapest_20 : decode cM_cheapest 20 = .ok (.iconst 0, 1) := by decide +kernel
theorem ddM_cheapest_21 : decode cM_cheapest 21 = .ok (.istore_n 3, 1) := by decide +kernel
theorem ddM_cheapest_22 : decode cM_cheapest 22 = .ok (.iload_n 3, 1) := by decide +kernel
theorem ddM_cheapest_23 : decode cM_cheapest 23 = .ok (.aload_n 0, 1) := by decide +kernel
theorem ddM_cheapest_24 : decode cM_cheapest 24 = .ok (.getfield 19, 3) := by decide +kernel
theorem ddM_cheapest_27 : decode cM_cheapest 27 = .ok (.iconst 1, 1) := by decide +kernel
theorem ddM_cheapest_28 : decode cM_cheapest 28 = .ok (.iaload, 1) := by decide +kernel
theorem ddM_cheapest_29 : decode cM_cheapest 29 = .ok (.if_icmp .ge 41, 3) := by decide +kernel
theorem ddM_cheapest_32 : decode cM_cheapest 32 = .ok (.aload_n 0, 1) := by decide +kernel
theorem ddM_cheapest_33 : decode cM_cheapest 33 = .ok (.iload_n 3, 1) := by decide +kernel
theorem ddM_cheapest_34 : decode cM_cheapest 34 = .ok (.invokevirtual 201, 3) := by decide +kernel
theorem ddM_cheapest_37 : decode cM_cheapest 37 = .ok (.ifCond .le 25, 3) := by decide +kernel
theorem ddM_cheapest_40 : decode cM_cheapest 40 = .ok (.iload_n 2, 1) := by decide +kernel
theorem ddM_cheapest_41 : decode cM_cheapest 41 = .ok (.iconst (-1), 1) := by decide +kernel
theorem ddM_cheapest_42 : decode cM_cheapest 42 = .ok (.if_icmp .eq 16, 3) := by decide +kernel
theorem ddM_cheapest_45 : decode cM_cheapest 45 = .ok (.aload_n 0, 1) := by decide +kernel
theorem ddM_cheapest_46 : decode cM_cheapest 46 = .ok (.iload_n 3, 1) := by decide +kernel
theorem ddM_cheapest_47 : decode cM_cheapest 47 = .ok (.invokevirtual 201, 3) := by decide +kernel
theorem ddM_cheapest_50 : decode cM_cheapest 50 = .ok (.aload_n 0, 1) := by decide +kernel
theorem ddM_cheapest_51 : decode cM_cheapest 51 = .ok (.iload_n 2, 1) := by decide +kernel
theorem ddM_cheapest_52 : decode cM_cheapest 52 = .ok (.invokevirtual 201, 3) := by decide +kernel
theorem ddM_cheapest_55 : decode cM_cheapest 55 = .ok (.if_icmp .ge 7, 3) := by decide +kernel
theorem ddM_cheapest_58 : decode cM_cheapest 58 = .ok (.iload_n 3, 1) := by decide +kernel
theorem ddM_cheapest_59 : decode cM_cheapest 59 = .ok (.goto 4, 3) := by decide +kernel
theorem ddM_cheapest_62 : decode cM_cheapest 62 = .ok (.iload_n 2, 1) := by decide +kernel
theorem ddM_cheapest_63 : decode cM_cheapest 63 = .ok (.istore_n 2, 1) := by decide +kernel
theorem ddM_cheapest_64 : decode cM_cheapest 64 = .ok (.iinc 3 1, 3) := by decide +kernel
theorem ddM_cheapest_67 : decode cM_cheapest 67 = .ok (.goto (-45), 3) := by decide +kernel
theorem ddM_cheapest_70 : decode cM_cheapest 70 = .ok (.iload_n 2, 1) := by decide +kernel
theorem ddM_cheapest_71 : decode cM_cheapest 71 = .ok (.iconst (-1), 1) := by decide +kernel
theorem ddM_cheapest_72 : decode cM_cheapest 72 = .ok (.if_icmp .eq 7, 3) := by decide +kernel
theorem ddM_cheapest_75 : decode cM_cheapest 75 = .ok (.iload_n 1, 1) := by decide +kernel
theorem ddM_cheapest_76 : decode cM_cheapest 76 = .ok (.ifCond .ne 5, 3) := by decide +kernel
theorem ddM_cheapest_79 : decode cM_cheapest 79 = .ok (.iload_n 2, 1) := by decide +kernel
theorem ddM_cheapest_80 : decode cM_cheapest 80 = .ok (.ireturn, 1) := by decide +kernel
theorem ddM_cheapest_81 : decode cM_cheapest 81 = .ok (.iconst 0, 1) := by decide +kernel
theorem ddM_cheapest_82 : decode cM_cheapest 82 = .ok (.istore_n 3, 1) := by decide +kernel
theorem ddM_cheapest_83 : decode cM_cheapest 83 = .ok (.iconst 0, 1) := by decide +kernel
theorem ddM_cheapest_84 : decode cM_cheapest 84 = .ok (.istore 4, 2) := by decide +kernel
theorem ddM_cheapest_86 : decode cM_cheapest 86 = .ok (.iload 4, 2) := by decide +kernel
theorem ddM_cheapest_88 : decode cM_cheapest 88 = .ok (.aload_n 0, 1) := by decide +kernel
theorem ddM_cheapest_89 : decode cM_cheapest 89 = .ok (.iload_n 2, 1) := by decide +kernel
theorem ddM_cheapest_90 : decode cM_cheapest 90 = .ok (.invokevirtual 176, 3) := by decide +kernel
theorem ddM_cheapest_93 : decode cM_cheapest 93 = .ok (.if_icmp .ge 22, 3) := by decide +kernel
theorem ddM_cheapest_96 : decode cM_cheapest 96 = .ok (.iload_n 3, 1) := by decide +kernel
theorem ddM_cheapest_97 : decode cM_cheapest 97 = .ok (.aload_n 0, 1) := by decide +kernel
theorem ddM_cheapest_98 : decode cM_cheapest 98 = .ok (.iload_n 2, 1) := by decide +kernel
theorem ddM_cheapest_99 : decode cM_cheapest 99 = .ok (.bipush 126, 2) := by decide +kernel
theorem ddM_cheapest_101 : decode cM_cheapest 101 = .ok (.iload 4, 2) := by decide +kernel
theorem ddM_cheapest_103 : decode cM_cheapest 103 = .ok (.iadd, 1) := by decide +kernel
theorem ddM_cheapest_104 : decode cM_cheapest 104 = .ok (.invokevirtual 170, 3) := by decide +kernel
theorem ddM_cheapest_107 : decode cM_cheapest 107 = .ok (.iadd, 1) := by decide +kernel
theorem ddM_cheapest_108 : decode cM_cheapest 108 = .ok (.istore_n 3, 1) := by decide +kernel
theorem ddM_cheapest_109 : decode cM_cheapest 109 = .ok (.iinc 4 1, 3) := by decide +kernel
theorem ddM_cheapest_112 : decode cM_cheapest 112 = .ok (.goto (-26), 3) := by decide +kernel
theorem ddM_cheapest_115 : decode cM_cheapest 115 = .ok (.iload_n 3, 1) := by decide +kernel
theorem ddM_cheapest_116 : decode cM_cheapest 116 = .ok (.ireturn, 1) := by decide +kernel
set_option maxHeartbeats 2000000 in
theorem zBM_cheapest_86 {G : GXM} {X : CxM} (hG : GokM G) (C : CoM G X cM_cheapest "HomeFreedModel") (N : mLM X = 5) {d : Nat} (hD : dpM X = d) (hd : 3 ≤ d) {v0 : Nat} {v2 : Int32} {K : Nat → Int32 → Int32 → Int32 → Mem → Option ((Int32 × Mem))} {q : (Int32 × Mem)} (hK : ∀ (v3 : Int32) (v4 : Int32) (M : Mem), K v0 v2 v3 v4 M = some q → ZM G X 86 [(0, .ref v0), (2, .int v2), (3, .int v3), (4, .int v4)] [] M 0 0) (hr : ∀ r : Int32 × Mem, q =  r → EnM G X (some .int) (some (.int r.1)) r.2 0 0) {v3 : Int32} {v4 : Int32} {M : Mem} (h : BM_cheapest_86 K v0 v2 v3 v4 M = some q) : ZM G X 86 [(0, .ref v0), (2, .int v2), (3, .int v3), (4, .int v4)] [] M 0 0 := by
  unfold BM_cheapest_86 at h
  refine zz_iload C 3 ddM_cheapest_86 rfl ?_
  refine zz_aload_n C 0 ddM_cheapest_88 rfl rfl ?_
  refine zz_iload_n C 1 ddM_cheapest_89 rfl rfl ?_
  obtain ⟨h2, h⟩ := gdN h
  obtain ⟨q1, hq1, h⟩ := bindN h
  refine zz_callV0 (As := [.int v2]) C ddM_cheapest_90 wd_1390 my_M_blocksOf mv_M_blocksOf ⟨_, rfl, rfl⟩ (xM_blocksOf hG (d - 1) (by omega) hq1) (by omega) h2 rfl rfl (Nat.le_of_ble_eq_true rfl) ?_
  refine zz_icmp_ge (tgt := 115) C ddM_cheapest_93 rfl (fun hc => ?_) (fun hc => ?_)
  · replace h := iteT h hc
    refine zz_iload_n C 2 ddM_cheapest_115 rfl rfl ?_
    exact zz_iret C (hr _ (Option.some.inj h).symm) ddM_cheapest_116
  · replace h := iteF h hc
    refine zz_iload_n C 2 ddM_cheapest_96 rfl rfl ?_
    refine zz_aload_n C 0 ddM_cheapest_97 rfl rfl ?_
    refine zz_iload_n C 1 ddM_cheapest_98 rfl rfl ?_
    refine zz_bipush (v := 126) C ddM_cheapest_99 (by decide) ?_
    refine zz_iload C 3 ddM_cheapest_101 rfl ?_
    refine zz_iadd C ddM_cheapest_103 ?_
    obtain ⟨h4, h⟩ := gdN h
    obtain ⟨q3, hq3, h⟩ := bindN h
    refine zz_callV0 (As := [.int v2, .int (126 + v4)]) C ddM_cheapest_104 wd_1378 my_M_of mv_M_of ⟨_, rfl, rfl⟩ (xM_of hG (d - 1) (by omega) hq3) (by omega) h4 rfl rfl (Nat.le_of_ble_eq_true rfl) ?_
    refine zz_iadd C ddM_cheapest_107 ?_
    refine zz_istore_n (L1 := [(3, .int (v3 + q3.1)), (0, .ref v0), (2, .int v2), (4, .int v4)]) C ddM_cheapest_108 rfl N (by decide) rfl ?_
    refine zz_iinc (v := v4 + 1) (L1 := [(4, .int (v4 + 1)), (3, .int (v3 + q3.1)), (0, .ref v0), (2, .int v2)]) C 3 ddM_cheapest_109 rfl rfl N (by decide) rfl ?_
    refine zz_goto (tgt := 86) C ddM_cheapest_112 rfl ?_
    refine zz_loc (L1 := [(0, .ref v0), (2, .int v2), (3, .int (v3 + q3.1)), (4, .int (v4 + 1))]) [2, 3, 1, 0] rfl ?_
    exact hK _ _ _ h
set_option maxHeartbeats 2000000 in
theorem zLM_cheapest_86 {G : GXM} {X : CxM} (hG : GokM G) (C : CoM G X cM_cheapest "HomeFreedModel") (N : mLM X = 5) {d : Nat} (hD : dpM X = d) (hd : 3 ≤ d) {v0 : Nat} {v2 : Int32} {q : (Int32 × Mem)} : ∀ (f : Nat) (v3 : Int32) (v4 : Int32) (M : Mem), LM_cheapest_86 f v0 v2 v3 v4 M = some q → (hr : ∀ r : Int32 × Mem, q =  r → EnM G X (some .int) (some (.int r.1)) r.2 0 0) → ZM G X 86 [(0, .ref v0), (2, .int v2), (3, .int v3), (4, .int v4)] [] M 0 0 := by
  intro f
  induction f with
  | zero => intro v3 v4 M h; cases h
  | succ f ih =>
    intro v3 v4 M h hr
    exact zBM_cheapest_86 hG C N hD hd (K := LM_cheapest_86 f) (q := q) (fun v3 v4 M h => ih v3 v4 M h hr) hr h
set_option maxHeartbeats 2000000 in
theorem zBM_cheapest_79 {G : GXM} {X : CxM} (hG : GokM G) (C : CoM G X cM_cheapest "HomeFreedModel") (N : mLM X = 5) {d : Nat} (hD : dpM X = d) (hd : 3 ≤ d)  {q : Int32 × Mem} (E : EnM G X (some .int) (some (.int q.1)) q.2 0 0) {v2 : Int32} {M : Mem} (h : BM_cheapest_79 v2 M = some q) : ZM G X 79 [(2, .int v2)] [] M 0 0 := by
  unfold BM_cheapest_79 at h
  refine zz_iload_n C 0 ddM_cheapest_79 rfl rfl ?_
  obtain rfl := Option.some.inj h
  exact zz_iret C E ddM_cheapest_80
set_option maxHeartbeats 2000000 in
theorem zBM_cheapest_63 {G : GXM} {X : CxM} (hG : GokM G) (C : CoM G X cM_cheapest "HomeFreedModel") (N : mLM X = 5) {d : Nat} (hD : dpM X = d) (hd : 3 ≤ d) {v0 : Nat} {v1 : Int32} {K : Nat → Int32 → Int32 → Int32 → Mem → Option ((Int32 × Mem))} {q : (Int32 × Mem)} (hK : ∀ (v2 : Int32) (v3 : Int32) (M : Mem), K v0 v1 v2 v3 M = some q → ZM G X 22 [(0, .ref v0), (1, .int v1), (2, .int v2), (3, .int v3)] [] M 0 0) (hx0 : ∀ y : Int32 × Mem, q = y → ZM G X 70 [(0, .ref v0), (1, .int v1), (2, .int y.1)] [] y.2 0 0) {v3 : Int32} {w0 : Int32} {M : Mem} (h : BM_cheapest_63 K v0 v1 v3 w0 M = some q) : ZM G X 63 [(0, .ref v0), (1, .int v1), (3, .int v3)] [.int w0] M 0 0 := by
  unfold BM_cheapest_63 at h
  refine zz_istore_n (L1 := [(2, .int w0), (0, .ref v0), (1, .int v1), (3, .int v3)]) C ddM_cheapest_63 rfl N (by decide) rfl ?_
  refine zz_iinc (v := v3 + 1) (L1 := [(3, .int (v3 + 1)), (2, .int w0), (0, .ref v0), (1, .int v1)]) C 3 ddM_cheapest_64 rfl rfl N (by decide) rfl ?_
  refine zz_goto (tgt := 22) C ddM_cheapest_67 rfl ?_
  refine zz_loc (L1 := [(0, .ref v0), (1, .int v1), (2, .int w0), (3, .int (v3 + 1))]) [2, 3, 1, 0] rfl ?_
  exact hK _ _ _ h
set_option maxHeartbeats 2000000 in
theorem zBM_cheapest_62 {G : GXM} {X : CxM} (hG : GokM G) (C : CoM G X cM_cheapest "HomeFreedModel") (N : mLM X = 5) {d : Nat} (hD : dpM X = d) (hd : 3 ≤ d) {v0 : Nat} {v1 : Int32} {K : Nat → Int32 → Int32 → Int32 → Mem → Option ((Int32 × Mem))} {q : (Int32 × Mem)} (hK : ∀ (v2 : Int32) (v3 : Int32) (M : Mem), K v0 v1 v2 v3 M = some q → ZM G X 22 [(0, .ref v0), (1, .int v1), (2, .int v2), (3, .int v3)] [] M 0 0) (hx0 : ∀ y : Int32 × Mem, q = y → ZM G X 70 [(0, .ref v0), (1, .int v1), (2, .int y.1)] [] y.2 0 0) {v2 : Int32} {v3 : Int32} {M : Mem} (h : BM_cheapest_62 K v0 v1 v2 v3 M = some q) : ZM G X 62 [(0, .ref v0), (1, .int v1), (2, .int v2), (3, .int v3)] [] M 0 0 := by
  unfold BM_cheapest_62 at h
  refine zz_iload_n C 2 ddM_cheapest_62 rfl rfl ?_
  refine zz_loc (L1 := [(0, .ref v0), (1, .int v1), (3, .int v3)]) [0, 1, 3] rfl ?_
  exact zBM_cheapest_63 hG C N hD hd hK hx0 h
set_option maxHeartbeats 2000000 in
theorem zBM_cheapest_58 {G : GXM} {X : CxM} (hG : GokM G) (C : CoM G X cM_cheapest "HomeFreedModel") (N : mLM X = 5) {d : Nat} (hD : dpM X = d) (hd : 3 ≤ d) {v0 : Nat} {v1 : Int32} {K : Nat → Int32 → Int32 → Int32 → Mem → Option ((Int32 × Mem))} {q : (Int32 × Mem)} (hK : ∀ (v2 : Int32) (v3 : Int32) (M : Mem), K v0 v1 v2 v3 M = some q → ZM G X 22 [(0, .ref v0), (1, .int v1), (2, .int v2), (3, .int v3)] [] M 0 0) (hx0 : ∀ y : Int32 × Mem, q = y → ZM G X 70 [(0, .ref v0), (1, .int v1), (2, .int y.1)] [] y.2 0 0) {v3 : Int32} {M : Mem} (h : BM_cheapest_58 K v0 v1 v3 M = some q) : ZM G X 58 [(0, .ref v0), (1, .int v1), (3, .int v3)] [] M 0 0 := by
  unfold BM_cheapest_58 at h
  refine zz_iload_n C 2 ddM_cheapest_58 rfl rfl ?_
  refine zz_goto (tgt := 63) C ddM_cheapest_59 rfl ?_
  exact zBM_cheapest_63 hG C N hD hd hK hx0 h
set_option maxHeartbeats 2000000 in
theorem zBM_cheapest_22 {G : GXM} {X : CxM} (hG : GokM G) (C : CoM G X cM_cheapest "HomeFreedModel") (N : mLM X = 5) {d : Nat} (hD : dpM X = d) (hd : 3 ≤ d) {v0 : Nat} {v1 : Int32} {K : Nat → Int32 → Int32 → Int32 → Mem → Option ((Int32 × Mem))} {q : (Int32 × Mem)} (hK : ∀ (v2 : Int32) (v3 : Int32) (M : Mem), K v0 v1 v2 v3 M = some q → ZM G X 22 [(0, .ref v0), (1, .int v1), (2, .int v2), (3, .int v3)] [] M 0 0) (hx0 : ∀ y : Int32 × Mem, q = y → ZM G X 70 [(0, .ref v0), (1, .int v1), (2, .int y.1)] [] y.2 0 0) {v2 : Int32} {v3 : Int32} {M : Mem} (h : BM_cheapest_22 K v0 v1 v2 v3 M = some q) : ZM G X 22 [(0, .ref v0), (1, .int v1), (2, .int v2), (3, .int v3)] [] M 0 0 := by
  unfold BM_cheapest_22 at h
  refine zz_iload_n C 3 ddM_cheapest_22 rfl rfl ?_
  refine zz_aload_n C 0 ddM_cheapest_23 rfl rfl ?_
  obtain ⟨h1, h⟩ := gdN h
  obtain ⟨h2, h⟩ := gdN h
  refine zz_getr C ddM_cheapest_24 fl_M_19 rfl h1 (of_decide_eq_true h2) ?_
  refine zz_iconst (v := 1) C ddM_cheapest_27 (by decide) ?_
  obtain ⟨h3, h⟩ := gdN h
  refine zz_iaload C ddM_cheapest_28 h3 ?_
  refine zz_icmp_ge (tgt := 70) C ddM_cheapest_29 rfl (fun hc => ?_) (fun hc => ?_)
  · replace h := iteT h hc
    refine zz_loc (L1 := [(0, .ref v0), (1, .int v1), (2, .int v2)]) [0, 1, 2] rfl ?_
    exact hx0 _ (Option.some.inj h).symm
  · replace h := iteF h hc
    refine zz_aload_n C 0 ddM_cheapest_32 rfl rfl ?_
    refine zz_iload_n C 3 ddM_cheapest_33 rfl rfl ?_
    obtain ⟨q4, hq4, h⟩ := bindN h
    refine zz_callV0 (As := [.int v3]) C ddM_cheapest_34 wd_1386 my_M_usedOf mv_M_usedOf ⟨_, rfl, rfl⟩ (xM_usedOf hG (d - 1) (by omega) hq4) (by omega) h1 rfl rfl (Nat.le_of_ble_eq_true rfl) ?_
    refine zz_if_le (tgt := 62) C ddM_cheapest_37 rfl (fun hc => ?_) (fun hc => ?_)
    · replace h := iteT h hc
      exact zBM_cheapest_62 hG C N hD hd hK hx0 h
    · replace h := iteF h hc
      refine zz_iload_n C 2 ddM_cheapest_40 rfl rfl ?_
      refine zz_iconst (v := (-1)) C ddM_cheapest_41 (by decide) ?_
      refine zz_icmp_eq (tgt := 58) C ddM_cheapest_42 rfl (fun hc => ?_) (fun hc => ?_)
      · replace h := iteT h hc
        refine zz_loc (L1 := [(0, .ref v0), (1, .int v1), (3, .int v3)]) [0, 1, 3] rfl ?_
        exact zBM_cheapest_58 hG C N hD hd hK hx0 h
      · replace h := iteF h hc
        refine zz_aload_n C 0 ddM_cheapest_45 rfl rfl ?_
        refine zz_iload_n C 3 ddM_cheapest_46 rfl rfl ?_
        obtain ⟨h6, h⟩ := gdN h
        obtain ⟨q5, hq5, h⟩ := bindN h
        refine zz_callV0 (As := [.int v3]) C ddM_cheapest_47 wd_1386 my_M_usedOf mv_M_usedOf ⟨_, rfl, rfl⟩ (xM_usedOf hG (d - 1) (by omega) hq5) (by omega) h6 rfl rfl (Nat.le_of_ble_eq_true rfl) ?_
        refine zz_aload_n C 0 ddM_cheapest_50 rfl rfl ?_
        refine zz_iload_n C 2 ddM_cheapest_51 rfl rfl ?_
        obtain ⟨h8, h⟩ := gdN h
        obtain ⟨q7, hq7, h⟩ := bindN h
        refine zz_callV0 (As := [.int v2]) C ddM_cheapest_52 wd_1386 my_M_usedOf mv_M_usedOf ⟨_, rfl, rfl⟩ (xM_usedOf hG (d - 1) (by omega) hq7) (by omega) h8 rfl rfl (Nat.le_of_ble_eq_true rfl) ?_
        refine zz_icmp_ge (tgt := 62) C ddM_cheapest_55 rfl (fun hc => ?_) (fun hc => ?_)
        · replace h := iteT h hc
          exact zBM_cheapest_62 hG C N hD hd hK hx0 h
        · replace h := iteF h hc
          refine zz_loc (L1 := [(0, .ref v0), (1, .int v1), (3, .int v3)]) [0, 1, 3] rfl ?_
          exact zBM_cheapest_58 hG C N hD hd hK hx0 h
set_option maxHeartbeats 2000000 in
theorem zLM_cheapest_22 {G : GXM} {X : CxM} (hG : GokM G) (C : CoM G X cM_cheapest "HomeFreedModel") (N : mLM X = 5) {d : Nat} (hD : dpM X = d) (hd : 3 ≤ d) {v0 : Nat} {v1 : Int32} {q : (Int32 × Mem)} : ∀ (f : Nat) (v2 : Int32) (v3 : Int32) (M : Mem), LM_cheapest_22 f v0 v1 v2 v3 M = some q → (hx0 : ∀ y : Int32 × Mem, q = y → ZM G X 70 [(0, .ref v0), (1, .int v1), (2, .int y.1)] [] y.2 0 0) → ZM G X 22 [(0, .ref v0), (1, .int v1), (2, .int v2), (3, .int v3)] [] M 0 0 := by
  intro f
  induction f with
  | zero => intro v2 v3 M h; cases h
  | succ f ih =>
    intro v2 v3 M h hx0
    exact zBM_cheapest_22 hG C N hD hd (K := LM_cheapest_22 f) (q := q) (fun v2 v3 M h => ih v2 v3 M h hx0) hx0 h
set_option maxHeartbeats 2000000 in
theorem zBM_cheapest_16 {G : GXM} {X : CxM} (hG : GokM G) (C : CoM G X cM_cheapest "HomeFreedModel") (N : mLM X = 5) {d : Nat} (hD : dpM X = d) (hd : 3 ≤ d)  {q : Int32 × Mem} (E : EnM G X (some .int) (some (.int q.1)) q.2 0 0) {M : Mem} (h : BM_cheapest_16 M = some q) : ZM G X 16 [] [] M 0 0 := by
  unfold BM_cheapest_16 at h
  refine zz_iconst (v := (-1)) C ddM_cheapest_16 (by decide) ?_
  obtain rfl := Option.some.inj h
  exact zz_iret C E ddM_cheapest_17
set_option maxHeartbeats 2000000 in
theorem xM_cheapest {G : GXM} {l : Launch} (hG : GokM G) (d : Nat) (hd : 3 ≤ d) {v0 : Nat} {v1 : Int32} {M : Mem} {q : Int32 × Mem} (h : fM_cheapest v0 v1 M = some q) : ExM G l d 0 0 yM_cheapest cM_cheapest 5 (some .int) [.ref v0, .int v1] M (some (.int q.1)) q.2 := by
  refine ex_of hG (by decide +kernel) (Nat.le_of_ble_eq_true rfl) ?_
  intro X hl C E N hD hn
  show ZM G X 0 [(0, .ref v0), (1, .int v1)] [] M 0 0
  unfold fM_cheapest at h
  refine zz_aload_n C 0 ddM_cheapest_0 rfl rfl ?_
  obtain ⟨h2, h⟩ := gdN h
  obtain ⟨q1, hq1, h⟩ := bindN h
  refine zz_callV0 (As := []) C ddM_cheapest_1 wd_1362 my_M_isArena mv_M_isArena ⟨_, rfl, rfl⟩ (xM_isArena hG (d - 1) (by omega) hq1) (by omega) h2 rfl rfl (Nat.le_of_ble_eq_true rfl) ?_
  refine zz_if_eq (tgt := 16) C ddM_cheapest_4 rfl (fun hc => ?_) (fun hc => ?_)
  · replace h := iteT h hc
    refine zz_loc (L1 := []) [] rfl ?_
    exact zBM_cheapest_16 hG C N hD hd E h
  · replace h := iteF h hc
    refine zz_iload_n C 1 ddM_cheapest_7 rfl rfl ?_
    refine zz_iconst (v := 0) C ddM_cheapest_8 (by decide) ?_
    refine zz_iconst (v := 1) C ddM_cheapest_9 (by decide) ?_
    obtain ⟨q3, hq3, h⟩ := bindN h
    refine zz_callS0 (As := [.int v1, .int 0, .int 1]) C ddM_cheapest_10 wd_1289 my_M_in mv_M_in (xM_in hG (d - 1) (by omega) hq3) (by omega) rfl rfl (Nat.le_of_ble_eq_true rfl) ?_
    refine zz_if_ne (tgt := 18) C ddM_cheapest_13 rfl (fun hc => ?_) (fun hc => ?_)
    · replace h := iteF h hc
      refine zz_iconst (v := (-1)) C ddM_cheapest_18 (by decide) ?_
      refine zz_istore_n (L1 := [(2, .int ((-1))), (0, .ref v0), (1, .int v1)]) C ddM_cheapest_19 rfl N (by decide) rfl ?_
      refine zz_iconst (v := 0) C ddM_cheapest_20 (by decide) ?_
      refine zz_istore_n (L1 := [(3, .int 0), (2, .int ((-1))), (0, .ref v0), (1, .int v1)]) C ddM_cheapest_21 rfl N (by decide) rfl ?_
      refine zz_loc (L1 := [(0, .ref v0), (1, .int v1), (2, .int ((-1))), (3, .int 0)]) [2, 3, 1, 0] rfl ?_
      obtain ⟨q4, hq4, h⟩ := bindN h
      refine zLM_cheapest_22 hG C N hD hd 1000000 _ _ _ hq4 ?_
      · intro y5 eq4; replace eq4 := eq4.symm; subst eq4
        refine zz_iload_n C 2 ddM_cheapest_70 rfl rfl ?_
        refine zz_iconst (v := (-1)) C ddM_cheapest_71 (by decide) ?_
        refine zz_icmp_eq (tgt := 79) C ddM_cheapest_72 rfl (fun hc => ?_) (fun hc => ?_)
        · replace h := iteT h hc
          refine zz_loc (L1 := [(2, .int y5.1)]) [2] rfl ?_
          exact zBM_cheapest_79 hG C N hD hd E h
        · replace h := iteF h hc
          refine zz_iload_n C 1 ddM_cheapest_75 rfl rfl ?_
          refine zz_if_ne (tgt := 81) C ddM_cheapest_76 rfl (fun hc => ?_) (fun hc => ?_)
          · replace h := iteF h hc
            refine zz_iconst (v := 0) C ddM_cheapest_81 (by decide) ?_
            refine zz_istore_n (L1 := [(3, .int 0), (0, .ref v0), (1, .int v1), (2, .int y5.1)]) C ddM_cheapest_82 rfl N (by decide) rfl ?_
            refine zz_iconst (v := 0) C ddM_cheapest_83 (by decide) ?_
            refine zz_istore (L1 := [(4, .int 0), (3, .int 0), (0, .ref v0), (1, .int v1), (2, .int y5.1)]) C ddM_cheapest_84 N (by decide) rfl ?_
            refine zz_loc (L1 := [(0, .ref v0), (2, .int y5.1), (3, .int 0), (4, .int 0)]) [2, 4, 1, 0] rfl ?_
            obtain ⟨q6, hq6, h⟩ := bindN h
            refine zLM_cheapest_86 hG C N hD hd 1000000 _ _ _ hq6 ?_
            · intro r7 eq6; replace eq6 := eq6.symm; subst eq6
              obtain rfl := Option.some.inj h
              exact E
          · replace h := iteT h hc
            refine zz_loc (L1 := [(2, .int y5.1)]) [2] rfl ?_
            exact zBM_cheapest_79 hG C N hD hd E h
    · replace h := iteT h hc
      refine zz_loc (L1 := []) [] rfl ?_
      exact zBM_cheapest_16 hG C N hD hd E h
theorem ddM_fullest_0 : decode cM_fullest 0 = .ok (.iconst 0, 1) := by decide +kernel
theorem ddM_fullest_1 : decode cM_fullest 1 = .ok (.istore_n 1, 1) := by decide +kernel
theorem ddM_fullest_2 : decode cM_fullest 2 = .ok (.iconst 1, 1) := by decide +kernel
theorem ddM_fullest_3 : decode cM_fullest 3 = .ok (.istore_n 2, 1) := by decide +kernel
theorem ddM_fullest_4 : decode cM_fullest 4 = .ok (.iload_n 2, 1) := by decide +kernel
theorem ddM_fullest_5 : decode cM_fullest 5 = .ok (.aload_n 0, 1) := by decide +kernel
theorem ddM_fullest_6 : decode cM_fullest 6 = .ok (.getfield 19, 3) := by decide +kernel
theorem ddM_fullest_9 : decode cM_fullest 9 = .ok (.iconst 1, 1) := by decide +kernel
theorem ddM_fullest_10 : decode cM_fullest 10 = .ok (.iaload, 1) := by decide +kernel
theorem ddM_fullest_11 : decode cM_fullest 11 = .ok (.if_icmp .ge 28, 3) := by decide +kernel
theorem ddM_fullest_14 : decode cM_fullest 14 = .ok (.aload_n 0, 1) := by decide +kernel
theorem ddM_fullest_15 : decode cM_fullest 15 = .ok (.iload_n 2, 1) := by decide +kernel
theorem ddM_fullest_16 : decode cM_fullest 16 = .ok (.invokevirtual 201, 3) := by decide +kernel
theorem ddM_fullest_19 : decode cM_fullest 19 = .ok (.aload_n 0, 1) := by decide +kernel
theorem ddM_fullest_20 : decode cM_fullest 20 = .ok (.iload_n 1, 1) := by decide +kernel
theorem ddM_fullest_21 : decode cM_fullest 21 = .ok (.invokevirtual 201, 3) := by decide +kernel
theorem ddM_fullest_24 : decode cM_fullest 24 = .ok (.if_icmp .le 7, 3) := by decide +kernel
theorem ddM_fullest_27 : decode cM_fullest 27 = .ok (.iload_n 2, 1) := by decide +kernel
theorem ddM_fullest_28 : decode cM_fullest 28 = .ok (.goto 4, 3) := by decide +kernel
theorem ddM_fullest_31 : decode cM_fullest 31 = .ok (.iload_n 1, 1) := by decide +kernel
theorem ddM_fullest_32 : decode cM_fullest 32 = .ok (.istore_n 1, 1) := by decide +kernel
theorem ddM_fullest_33 : decode cM_fullest 33 = .ok (.iinc 2 1, 3) := by decide +kernel
theorem ddM_fullest_36 : decode cM_fullest 36 = .ok (.goto (-32), 3) := by decide +kernel
theorem ddM_fullest_39 : decode cM_fullest 39 = .ok (.iload_n 1, 1) := by decide +kernel
theorem ddM_fullest_40 : decode cM_fullest 40 = .ok (.ireturn, 1) := by decide +kernel
set_option maxHeartbeats 2000000 in
theorem zBM_fullest_32 {G : GXM} {X : CxM} (hG : GokM G) (C : CoM G X cM_fullest "HomeFreedModel") (N : mLM X = 3) {d : Nat} (hD : dpM X = d) (hd : 3 ≤ d) {v0 : Nat} {K : Nat → Int32 → Int32 → Mem → Option ((Int32 × Mem))} {q : (Int32 × Mem)} (hK : ∀ (v1 : Int32) (v2 : Int32) (M : Mem), K v0 v1 v2 M = some q → ZM G X 4 [(0, .ref v0), (1, .int v1), (2, .int v2)] [] M 0 0) (hr : ∀ r : Int32 × Mem, q =  r → EnM G X (some .int) (some (.int r.1)) r.2 0 0) {v2 : Int32} {w0 : Int32} {M : Mem} (h : BM_fullest_32 K v0 v2 w0 M = some q) : ZM G X 32 [(0, .ref v0), (2, .int v2)] [.int w0] M 0 0 := by
  unfold BM_fullest_32 at h
  refine zz_istore_n (L1 := [(1, .int w0), (0, .ref v0), (2, .int v2)]) C ddM_fullest_32 rfl N (by decide) rfl ?_
  refine zz_iinc (v := v2 + 1) (L1 := [(2, .int (v2 + 1)), (1, .int w0), (0, .ref v0)]) C 2 ddM_fullest_33 rfl rfl N (by decide) rfl ?_
  refine zz_goto (tgt := 4) C ddM_fullest_36 rfl ?_
  refine zz_loc (L1 := [(0, .ref v0), (1, .int w0), (2, .int (v2 + 1))]) [2, 1, 0] rfl ?_
  exact hK _ _ _ h
set_option maxHeartbeats 2000000 in
theorem zBM_fullest_4 {G : GXM} {X : CxM} (hG : GokM G) (C : CoM G X cM_fullest "HomeFreedModel") (N : mLM X = 3) {d : Nat} (hD : dpM X = d) (hd : 3 ≤ d) {v0 : Nat} {K : Nat → Int32 → Int32 → Mem → Option ((Int32 × Mem))} {q : (Int32 × Mem)} (hK : ∀ (v1 : Int32) (v2 : Int32) (M : Mem), K v0 v1 v2 M = some q → ZM G X 4 [(0, .ref v0), (1, .int v1), (2, .int v2)] [] M 0 0) (hr : ∀ r : Int32 × Mem, q =  r → EnM G X (some .int) (some (.int r.1)) r.2 0 0) {v1 : Int32} {v2 : Int32} {M : Mem} (h : BM_fullest_4 K v0 v1 v2 M = some q) : ZM G X 4 [(0, .ref v0), (1, .int v1), (2, .int v2)] [] M 0 0 := by
  unfold BM_fullest_4 at h
  refine zz_iload_n C 2 ddM_fullest_4 rfl rfl ?_
  refine zz_aload_n C 0 ddM_fullest_5 rfl rfl ?_
  obtain ⟨h1, h⟩ := gdN h
  obtain ⟨h2, h⟩ := gdN h
  refine zz_getr C ddM_fullest_6 fl_M_19 rfl h1 (of_decide_eq_true h2) ?_
  refine zz_iconst (v := 1) C ddM_fullest_9 (by decide) ?_
  obtain ⟨h3, h⟩ := gdN h
  refine zz_iaload C ddM_fullest_10 h3 ?_
  refine zz_icmp_ge (tgt := 39) C ddM_fullest_11 rfl (fun hc => ?_) (fun hc => ?_)
  · replace h := iteT h hc
    refine zz_iload_n C 1 ddM_fullest_39 rfl rfl ?_
    exact zz_iret C (hr _ (Option.some.inj h).symm) ddM_fullest_40
  · replace h := iteF h hc
    refine zz_aload_n C 0 ddM_fullest_14 rfl rfl ?_
    refine zz_iload_n C 2 ddM_fullest_15 rfl rfl ?_
    obtain ⟨q4, hq4, h⟩ := bindN h
    refine zz_callV0 (As := [.int v2]) C ddM_fullest_16 wd_1386 my_M_usedOf mv_M_usedOf ⟨_, rfl, rfl⟩ (xM_usedOf hG (d - 1) (by omega) hq4) (by omega) h1 rfl rfl (Nat.le_of_ble_eq_true rfl) ?_
    refine zz_aload_n C 0 ddM_fullest_19 rfl rfl ?_
    refine zz_iload_n C 1 ddM_fullest_20 rfl rfl ?_
    obtain ⟨h6, h⟩ := gdN h
    obtain ⟨q5, hq5, h⟩ := bindN h
    refine zz_callV0 (As := [.int v1]) C ddM_fullest_21 wd_1386 my_M_usedOf mv_M_usedOf ⟨_, rfl, rfl⟩ (xM_usedOf hG (d - 1) (by omega) hq5) (by omega) h6 rfl rfl (Nat.le_of_ble_eq_true rfl) ?_
    refine zz_icmp_le (tgt := 31) C ddM_fullest_24 rfl (fun hc => ?_) (fun hc => ?_)
    · replace h := iteT h hc
      refine zz_iload_n C 1 ddM_fullest_31 rfl rfl ?_
      refine zz_loc (L1 := [(0, .ref v0), (2, .int v2)]) [0, 2] rfl ?_
      exact zBM_fullest_32 hG C N hD hd hK hr h
    · replace h := iteF h hc
      refine zz_iload_n C 2 ddM_fullest_27 rfl rfl ?_
      refine zz_goto (tgt := 32) C ddM_fullest_28 rfl ?_
      refine zz_loc (L1 := [(0, .ref v0), (2, .int v2)]) [0, 2] rfl ?_
      exact zBM_fullest_32 hG C N hD hd hK hr h
set_option maxHeartbeats 2000000 in
theorem zLM_fullest_4 {G : GXM} {X : CxM} (hG : GokM G) (C : CoM G X cM_fullest "HomeFreedModel") (N : mLM X = 3) {d : Nat} (hD : dpM X = d) (hd : 3 ≤ d) {v0 : Nat} {q : (Int32 × Mem)} : ∀ (f : Nat) (v1 : Int32) (v2 : Int32) (M : Mem), LM_fullest_4 f v0 v1 v2 M = some q → (hr : ∀ r : Int32 × Mem, q =  r → EnM G X (some .int) (some (.int r.1)) r.2 0 0) → ZM G X 4 [(0, .ref v0), (1, .int v1), (2, .int v2)] [] M 0 0 := by
  intro f
  induction f with
  | zero => intro v1 v2 M h; cases h
  | succ f ih =>
    intro v1 v2 M h hr
    exact zBM_fullest_4 hG C N hD hd (K := LM_fullest_4 f) (q := q) (fun v1 v2 M h => ih v1 v2 M h hr) hr h
set_option maxHeartbeats 2000000 in
theorem xM_fullest {G : GXM} {l : Launch} (hG : GokM G) (d : Nat) (hd : 3 ≤ d) {v0 : Nat} {M : Mem} {q : Int32 × Mem} (h : fM_fullest v0 M = some q) : ExM G l d 0 0 yM_fullest cM_fullest 3 (some .int) [.ref v0] M (some (.int q.1)) q.2 := by
  refine ex_of hG (by decide +kernel) (Nat.le_of_ble_eq_true rfl) ?_
  intro X hl C E N hD hn
  show ZM G X 0 [(0, .ref v0)] [] M 0 0
  unfold fM_fullest at h
  refine zz_iconst (v := 0) C ddM_fullest_0 (by decide) ?_
  refine zz_istore_n (L1 := [(1, .int 0), (0, .ref v0)]) C ddM_fullest_1 rfl N (by decide) rfl ?_
  refine zz_iconst (v := 1) C ddM_fullest_2 (by decide) ?_
  refine zz_istore_n (L1 := [(2, .int 1), (1, .int 0), (0, .ref v0)]) C ddM_fullest_3 rfl N (by decide) rfl ?_
  refine zz_loc (L1 := [(0, .ref v0), (1, .int 0), (2, .int 1)]) [2, 1, 0] rfl ?_
  obtain ⟨q1, hq1, h⟩ := bindN h
  refine zLM_fullest_4 hG C N hD hd 1000000 _ _ _ hq1 ?_
  · intro r2 eq1; replace eq1 := eq1.symm; subst eq1
    obtain rfl := Option.some.inj h
    exact E
theorem ddM_richest_0 : decode cM_richest 0 = .ok (.iconst 0, 1) := by decide +kernel
theorem ddM_richest_1 : decode cM_richest 1 = .ok (.istore_n 1, 1) := by decide +kernel
theorem ddM_richest_2 : decode cM_richest 2 = .ok (.iconst 1, 1) := by decide +kernel
theorem ddM_richest_3 : decode cM_richest 3 = .ok (.istore_n 2, 1) := by decide +kernel
theorem ddM_richest_4 : decode cM_richest 4 = .ok (.iload_n 2, 1) := by decide +kernel
theorem ddM_richest_5 : decode cM_richest 5 = .ok (.aload_n 0, 1) := by decide +kernel
theorem ddM_richest_6 : decode cM_richest 6 = .ok (.getfield 19, 3) := by decide +kernel
theorem ddM_richest_9 : decode cM_richest 9 = .ok (.iconst 0, 1) := by decide +kernel
theorem ddM_richest_10 : decode cM_richest 10 = .ok (.iaload, 1) := by decide +kernel
theorem ddM_richest_11 : decode cM_richest 11 = .ok (.if_icmp .ge 28, 3) := by decide +kernel
theorem ddM_richest_14 : decode cM_richest 14 = .ok (.aload_n 0, 1) := by decide +kernel
theorem ddM_richest_15 : decode cM_richest 15 = .ok (.iload_n 2, 1) := by decide +kernel
theorem ddM_richest_16 : decode cM_richest 16 = .ok (.invokevirtual 300, 3) := by decide +kernel
theorem ddM_richest_19 : decode cM_richest 19 = .ok (.aload_n 0, 1) := by decide +kernel
theorem ddM_richest_20 : decode cM_richest 20 = .ok (.iload_n 1, 1) := by decide +kernel
theorem ddM_richest_21 : decode cM_richest 21 = .ok (.invokevirtual 300, 3) := by decide +kernel
theorem ddM_richest_24 : decode cM_richest 24 = .ok (.if_icmp .le 7, 3) := by decide +kernel
theorem ddM_richest_27 : decode cM_richest 27 = .ok (.iload_n 2, 1) := by decide +kernel
theorem ddM_richest_28 : decode cM_richest 28 = .ok (.goto 4, 3) := by decide +kernel
theorem ddM_richest_31 : decode cM_richest 31 = .ok (.iload_n 1, 1) := by decide +kernel
theorem ddM_richest_32 : decode cM_richest 32 = .ok (.istore_n 1, 1) := by decide +kernel
theorem ddM_richest_33 : decode cM_richest 33 = .ok (.iinc 2 1, 3) := by decide +kernel
theorem ddM_richest_36 : decode cM_richest 36 = .ok (.goto (-32), 3) := by decide +kernel
theorem ddM_richest_39 : decode cM_richest 39 = .ok (.iload_n 1, 1) := by decide +kernel
theorem ddM_richest_40 : decode cM_richest 40 = .ok (.ireturn, 1) := by decide +kernel
set_option maxHeartbeats 2000000 in
theorem zBM_richest_32 {G : GXM} {X : CxM} (hG : GokM G) (C : CoM G X cM_richest "HomeFreedModel") (N : mLM X = 3) {d : Nat} (hD : dpM X = d) (hd : 4 ≤ d) {v0 : Nat} {K : Nat → Int32 → Int32 → Mem → Option ((Int32 × Mem))} {q : (Int32 × Mem)} (hK : ∀ (v1 : Int32) (v2 : Int32) (M : Mem), K v0 v1 v2 M = some q → ZM G X 4 [(0, .ref v0), (1, .int v1), (2, .int v2)] [] M 0 0) (hr : ∀ r : Int32 × Mem, q =  r → EnM G X (some .int) (some (.int r.1)) r.2 0 0) {v2 : Int32} {w0 : Int32} {M : Mem} (h : BM_richest_32 K v0 v2 w0 M = some q) : ZM G X 32 [(0, .ref v0), (2, .int v2)] [.int w0] M 0 0 := by
  unfold BM_richest_32 at h
  refine zz_istore_n (L1 := [(1, .int w0), (0, .ref v0), (2, .int v2)]) C ddM_richest_32 rfl N (by decide) rfl ?_
  refine zz_iinc (v := v2 + 1) (L1 := [(2, .int (v2 + 1)), (1, .int w0), (0, .ref v0)]) C 2 ddM_richest_33 rfl rfl N (by decide) rfl ?_
  refine zz_goto (tgt := 4) C ddM_richest_36 rfl ?_
  refine zz_loc (L1 := [(0, .ref v0), (1, .int w0), (2, .int (v2 + 1))]) [2, 1, 0] rfl ?_
  exact hK _ _ _ h
set_option maxHeartbeats 2000000 in
theorem zBM_richest_4 {G : GXM} {X : CxM} (hG : GokM G) (C : CoM G X cM_richest "HomeFreedModel") (N : mLM X = 3) {d : Nat} (hD : dpM X = d) (hd : 4 ≤ d) {v0 : Nat} {K : Nat → Int32 → Int32 → Mem → Option ((Int32 × Mem))} {q : (Int32 × Mem)} (hK : ∀ (v1 : Int32) (v2 : Int32) (M : Mem), K v0 v1 v2 M = some q → ZM G X 4 [(0, .ref v0), (1, .int v1), (2, .int v2)] [] M 0 0) (hr : ∀ r : Int32 × Mem, q =  r → EnM G X (some .int) (some (.int r.1)) r.2 0 0) {v1 : Int32} {v2 : Int32} {M : Mem} (h : BM_richest_4 K v0 v1 v2 M = some q) : ZM G X 4 [(0, .ref v0), (1, .int v1), (2, .int v2)] [] M 0 0 := by
  unfold BM_richest_4 at h
  refine zz_iload_n C 2 ddM_richest_4 rfl rfl ?_
  refine zz_aload_n C 0 ddM_richest_5 rfl rfl ?_
  obtain ⟨h1, h⟩ := gdN h
  obtain ⟨h2, h⟩ := gdN h
  refine zz_getr C ddM_richest_6 fl_M_19 rfl h1 (of_decide_eq_true h2) ?_
  refine zz_iconst (v := 0) C ddM_richest_9 (by decide) ?_
  obtain ⟨h3, h⟩ := gdN h
  refine zz_iaload C ddM_richest_10 h3 ?_
  refine zz_icmp_ge (tgt := 39) C ddM_richest_11 rfl (fun hc => ?_) (fun hc => ?_)
  · replace h := iteT h hc
    refine zz_iload_n C 1 ddM_richest_39 rfl rfl ?_
    exact zz_iret C (hr _ (Option.some.inj h).symm) ddM_richest_40
  · replace h := iteF h hc
    refine zz_aload_n C 0 ddM_richest_14 rfl rfl ?_
    refine zz_iload_n C 2 ddM_richest_15 rfl rfl ?_
    obtain ⟨q4, hq4, h⟩ := bindN h
    refine zz_callV0 (As := [.int v2]) C ddM_richest_16 wd_1413 my_M_ownedBy mv_M_ownedBy ⟨_, rfl, rfl⟩ (xM_ownedBy hG (d - 1) (by omega) hq4) (by omega) h1 rfl rfl (Nat.le_of_ble_eq_true rfl) ?_
    refine zz_aload_n C 0 ddM_richest_19 rfl rfl ?_
    refine zz_iload_n C 1 ddM_richest_20 rfl rfl ?_
    obtain ⟨h6, h⟩ := gdN h
    obtain ⟨q5, hq5, h⟩ := bindN h
    refine zz_callV0 (As := [.int v1]) C ddM_richest_21 wd_1413 my_M_ownedBy mv_M_ownedBy ⟨_, rfl, rfl⟩ (xM_ownedBy hG (d - 1) (by omega) hq5) (by omega) h6 rfl rfl (Nat.le_of_ble_eq_true rfl) ?_
    refine zz_icmp_le (tgt := 31) C ddM_richest_24 rfl (fun hc => ?_) (fun hc => ?_)
    · replace h := iteT h hc
      refine zz_iload_n C 1 ddM_richest_31 rfl rfl ?_
      refine zz_loc (L1 := [(0, .ref v0), (2, .int v2)]) [0, 2] rfl ?_
      exact zBM_richest_32 hG C N hD hd hK hr h
    · replace h := iteF h hc
      refine zz_iload_n C 2 ddM_richest_27 rfl rfl ?_
      refine zz_goto (tgt := 32) C ddM_richest_28 rfl ?_
      refine zz_loc (L1 := [(0, .ref v0), (2, .int v2)]) [0, 2] rfl ?_
      exact zBM_richest_32 hG C N hD hd hK hr h
set_option maxHeartbeats 2000000 in
theorem zLM_richest_4 {G : GXM} {X : CxM} (hG : GokM G) (C : CoM G X cM_richest "HomeFreedModel") (N : mLM X = 3) {d : Nat} (hD : dpM X = d) (hd : 4 ≤ d) {v0 : Nat} {q : (Int32 × Mem)} : ∀ (f : Nat) (v1 : Int32) (v2 : Int32) (M : Mem), LM_richest_4 f v0 v1 v2 M = some q → (hr : ∀ r : Int32 × Mem, q =  r → EnM G X (some .int) (some (.int r.1)) r.2 0 0) → ZM G X 4 [(0, .ref v0), (1, .int v1), (2, .int v2)] [] M 0 0 := by
  intro f
  induction f with
  | zero => intro v1 v2 M h; cases h
  | succ f ih =>
    intro v1 v2 M h hr
    exact zBM_richest_4 hG C N hD hd (K := LM_richest_4 f) (q := q) (fun v1 v2 M h => ih v1 v2 M h hr) hr h
set_option maxHeartbeats 2000000 in
theorem xM_richest {G : GXM} {l : Launch} (hG : GokM G) (d : Nat) (hd : 4 ≤ d) {v0 : Nat} {M : Mem} {q : Int32 × Mem} (h : fM_richest v0 M = some q) : ExM G l d 0 0 yM_richest cM_richest 3 (some .int) [.ref v0] M (some (.int q.1)) q.2 := by
  refine ex_of hG (by decide +kernel) (Nat.le_of_ble_eq_true rfl) ?_
  intro X hl C E N hD hn
  show ZM G X 0 [(0, .ref v0)] [] M 0 0
  unfold fM_richest at h
  refine zz_iconst (v := 0) C ddM_richest_0 (by decide) ?_
  refine zz_istore_n (L1 := [(1, .int 0), (0, .ref v0)]) C ddM_richest_1 rfl N (by decide) rfl ?_
  refine zz_iconst (v := 1) C ddM_richest_2 (by decide) ?_
  refine zz_istore_n (L1 := [(2, .int 1), (1, .int 0), (0, .ref v0)]) C ddM_richest_3 rfl N (by decide) rfl ?_
  refine zz_loc (L1 := [(0, .ref v0), (1, .int 0), (2, .int 1)]) [2, 1, 0] rfl ?_
  obtain ⟨q1, hq1, h⟩ := bindN h
  refine zLM_richest_4 hG C N hD hd 1000000 _ _ _ hq1 ?_
  · intro r2 eq1; replace eq1 := eq1.symm; subst eq1
    obtain rfl := Option.some.inj h
    exact E
theorem ddM_living_0 : decode cM_living 0 = .ok (.iconst 0, 1) := by decide +kernel
theorem ddM_living_1 : decode cM_living 1 = .ok (.istore_n 1, 1) := by decide +kernel
theorem ddM_living_2 : decode cM_living 2 = .ok (.iconst 0, 1) := by decide +kernel
theorem ddM_living_3 : decode cM_living 3 = .ok (.istore_n 2, 1) := by decide +kernel
theorem ddM_living_4 : decode cM_living 4 = .ok (.iload_n 2, 1) := by decide +kernel
theorem ddM_living_5 : decode cM_living 5 = .ok (.aload_n 0, 1) := by decide +kernel
theorem ddM_living_6 : decode cM_living 6 = .ok (.getfield 19, 3) := by decide +kernel
theorem ddM_living_9 : decode cM_living 9 = .ok (.iconst 0, 1) := by decide +kernel
theorem ddM_living_10 : decode cM_living 10 = .ok (.iaload, 1) := by decide +kernel
theorem ddM_living_11 : decode cM_living 11 = .ok (.if_icmp .ge 24, 3) := by decide +kernel
theorem ddM_living_14 : decode cM_living 14 = .ok (.iload_n 1, 1) := by decide +kernel
theorem ddM_living_15 : decode cM_living 15 = .ok (.aload_n 0, 1) := by decide +kernel
theorem ddM_living_16 : decode cM_living 16 = .ok (.getfield 31, 3) := by decide +kernel
theorem ddM_living_19 : decode cM_living 19 = .ok (.sipush 3704, 3) := by decide +kernel
theorem ddM_living_22 : decode cM_living 22 = .ok (.iload_n 2, 1) := by decide +kernel
theorem ddM_living_23 : decode cM_living 23 = .ok (.iadd, 1) := by decide +kernel
theorem ddM_living_24 : decode cM_living 24 = .ok (.iaload, 1) := by decide +kernel
theorem ddM_living_25 : decode cM_living 25 = .ok (.iload_n 2, 1) := by decide +kernel
theorem ddM_living_26 : decode cM_living 26 = .ok (.ishl, 1) := by decide +kernel
theorem ddM_living_27 : decode cM_living 27 = .ok (.ior, 1) := by decide +kernel
theorem ddM_living_28 : decode cM_living 28 = .ok (.istore_n 1, 1) := by decide +kernel
theorem ddM_living_29 : decode cM_living 29 = .ok (.iinc 2 1, 3) := by decide +kernel
theorem ddM_living_32 : decode cM_living 32 = .ok (.goto (-28), 3) := by decide +kernel
theorem ddM_living_35 : decode cM_living 35 = .ok (.iload_n 1, 1) := by decide +kernel
theorem ddM_living_36 : decode cM_living 36 = .ok (.ireturn, 1) := by decide +kernel
set_option maxHeartbeats 2000000 in
theorem zBM_living_4 {G : GXM} {X : CxM} (hG : GokM G) (C : CoM G X cM_living "HomeFreedModel") (N : mLM X = 3) {d : Nat} (hD : dpM X = d) (hd : 0 ≤ d) {v0 : Nat} {K : Nat → Int32 → Int32 → Mem → Option ((Int32 × Mem))} {q : (Int32 × Mem)} (hK : ∀ (v1 : Int32) (v2 : Int32) (M : Mem), K v0 v1 v2 M = some q → ZM G X 4 [(0, .ref v0), (1, .int v1), (2, .int v2)] [] M 0 0) (hr : ∀ r : Int32 × Mem, q =  r → EnM G X (some .int) (some (.int r.1)) r.2 0 0) {v1 : Int32} {v2 : Int32} {M : Mem} (h : BM_living_4 K v0 v1 v2 M = some q) : ZM G X 4 [(0, .ref v0), (1, .int v1), (2, .int v2)] [] M 0 0 := by
  unfold BM_living_4 at h
  refine zz_iload_n C 2 ddM_living_4 rfl rfl ?_
  refine zz_aload_n C 0 ddM_living_5 rfl rfl ?_
  obtain ⟨h1, h⟩ := gdN h
  obtain ⟨h2, h⟩ := gdN h
  refine zz_getr C ddM_living_6 fl_M_19 rfl h1 (of_decide_eq_true h2) ?_
  refine zz_iconst (v := 0) C ddM_living_9 (by decide) ?_
  obtain ⟨h3, h⟩ := gdN h
  refine zz_iaload C ddM_living_10 h3 ?_
  refine zz_icmp_ge (tgt := 35) C ddM_living_11 rfl (fun hc => ?_) (fun hc => ?_)
  · replace h := iteT h hc
    refine zz_iload_n C 1 ddM_living_35 rfl rfl ?_
    exact zz_iret C (hr _ (Option.some.inj h).symm) ddM_living_36
  · replace h := iteF h hc
    refine zz_iload_n C 1 ddM_living_14 rfl rfl ?_
    refine zz_aload_n C 0 ddM_living_15 rfl rfl ?_
    obtain ⟨h4, h⟩ := gdN h
    refine zz_getr C ddM_living_16 fl_M_31 rfl h1 (of_decide_eq_true h4) ?_
    refine zz_sipush (v := 3704) C ddM_living_19 (by decide) ?_
    refine zz_iload_n C 2 ddM_living_22 rfl rfl ?_
    refine zz_iadd C ddM_living_23 ?_
    obtain ⟨h5, h⟩ := gdN h
    refine zz_iaload C ddM_living_24 h5 ?_
    refine zz_iload_n C 2 ddM_living_25 rfl rfl ?_
    refine zz_ishl C ddM_living_26 ?_
    refine zz_ior C ddM_living_27 ?_
    refine zz_istore_n (L1 := [(1, .int (v1 ||| ((giM M (grM M v0 15) (Int32.toNatClampNeg (3704 + v2))) <<< (v2 &&& 31)))), (0, .ref v0), (2, .int v2)]) C ddM_living_28 rfl N (by decide) rfl ?_
    refine zz_iinc (v := v2 + 1) (L1 := [(2, .int (v2 + 1)), (1, .int (v1 ||| ((giM M (grM M v0 15) (Int32.toNatClampNeg (3704 + v2))) <<< (v2 &&& 31)))), (0, .ref v0)]) C 2 ddM_living_29 rfl rfl N (by decide) rfl ?_
    refine zz_goto (tgt := 4) C ddM_living_32 rfl ?_
    refine zz_loc (L1 := [(0, .ref v0), (1, .int (v1 ||| ((giM M (grM M v0 15) (Int32.toNatClampNeg (3704 + v2))) <<< (v2 &&& 31)))), (2, .int (v2 + 1))]) [2, 1, 0] rfl ?_
    exact hK _ _ _ h
set_option maxHeartbeats 2000000 in
theorem zLM_living_4 {G : GXM} {X : CxM} (hG : GokM G) (C : CoM G X cM_living "HomeFreedModel") (N : mLM X = 3) {d : Nat} (hD : dpM X = d) (hd : 0 ≤ d) {v0 : Nat} {q : (Int32 × Mem)} : ∀ (f : Nat) (v1 : Int32) (v2 : Int32) (M : Mem), LM_living_4 f v0 v1 v2 M = some q → (hr : ∀ r : Int32 × Mem, q =  r → EnM G X (some .int) (some (.int r.1)) r.2 0 0) → ZM G X 4 [(0, .ref v0), (1, .int v1), (2, .int v2)] [] M 0 0 := by
  intro f
  induction f with
  | zero => intro v1 v2 M h; cases h
  | succ f ih =>
    intro v1 v2 M h hr
    exact zBM_living_4 hG C N hD hd (K := LM_living_4 f) (q := q) (fun v1 v2 M h => ih v1 v2 M h hr) hr h
set_option maxHeartbeats 2000000 in
theorem xM_living {G : GXM} {l : Launch} (hG : GokM G) (d : Nat) (hd : 0 ≤ d) {v0 : Nat} {M : Mem} {q : Int32 × Mem} (h : fM_living v0 M = some q) : ExM G l d 0 0 yM_living cM_living 3 (some .int) [.ref v0] M (some (.int q.1)) q.2 := by
  refine ex_of hG (by decide +kernel) (Nat.le_of_ble_eq_true rfl) ?_
  intro X hl C E N hD hn
  show ZM G X 0 [(0, .ref v0)] [] M 0 0
  unfold fM_living at h
  refine zz_iconst (v := 0) C ddM_living_0 (by decide) ?_
  refine zz_istore_n (L1 := [(1, .int 0), (0, .ref v0)]) C ddM_living_1 rfl N (by decide) rfl ?_
  refine zz_iconst (v := 0) C ddM_living_2 (by decide) ?_
  refine zz_istore_n (L1 := [(2, .int 0), (1, .int 0), (0, .ref v0)]) C ddM_living_3 rfl N (by decide) rfl ?_
  refine zz_loc (L1 := [(0, .ref v0), (1, .int 0), (2, .int 0)]) [2, 1, 0] rfl ?_
  obtain ⟨q1, hq1, h⟩ := bindN h
  refine zLM_living_4 hG C N hD hd 1000000 _ _ _ hq1 ?_
  · intro r2 eq1; replace eq1 := eq1.symm; subst eq1
    obtain rfl := Option.some.inj h
    exact E
theorem ddM_pagesThat_0 : decode cM_pagesThat 0 = .ok (.iconst 0, 1) := by decide +kernel
theorem ddM_pagesThat_1 : decode cM_pagesThat 1 = .ok (.istore_n 2, 1) := by decide +kernel
theorem ddM_pagesThat_2 : decode cM_pagesThat 2 = .ok (.iconst 0, 1) := by decide +kernel
theorem ddM_pagesThat_3 : decode cM_pagesThat 3 = .ok (.istore_n 3, 1) := by decide +kernel
theorem ddM_pagesThat_4 : decode cM_pagesThat 4 = .ok (.iload_n 3, 1) := by decide +kernel
theorem ddM_pagesThat_5 : decode cM_pagesThat 5 = .ok (.aload_n 0, 1) := by decide +kernel
theorem ddM_pagesThat_6 : decode cM_pagesThat 6 = .ok (.getfield 19, 3) := by decide +kernel
theorem ddM_pagesThat_9 : decode cM_pagesThat 9 = .ok (.iconst 1, 1) := by decide +kernel
theorem ddM_pagesThat_10 : decode cM_pagesThat 10 = .ok (.iaload, 1) := by decide +kernel
theorem ddM_pagesThat_11 : decode cM_pagesThat 11 = .ok (.if_icmp .ge 29, 3) := by decide +kernel
theorem ddM_pagesThat_14 : decode cM_pagesThat 14 = .ok (.iload_n 2, 1) := by decide +kernel
theorem ddM_pagesThat_15 : decode cM_pagesThat 15 = .ok (.aload_n 0, 1) := by decide +kernel
theorem ddM_pagesThat_16 : decode cM_pagesThat 16 = .ok (.iload_n 3, 1) := by decide +kernel
theorem ddM_pagesThat_17 : decode cM_pagesThat 17 = .ok (.iconst 0, 1) := by decide +kernel
theorem ddM_pagesThat_18 : decode cM_pagesThat 18 = .ok (.invokevirtual 170, 3) := by decide +kernel
theorem ddM_pagesThat_21 : decode cM_pagesThat 21 = .ok (.iload_n 1, 1) := by decide +kernel
theorem ddM_pagesThat_22 : decode cM_pagesThat 22 = .ok (.if_icmp .ne 9, 3) := by decide +kernel
theorem ddM_pagesThat_25 : decode cM_pagesThat 25 = .ok (.iconst 1, 1) := by decide +kernel
theorem ddM_pagesThat_26 : decode cM_pagesThat 26 = .ok (.iload_n 3, 1) := by decide +kernel
theorem ddM_pagesThat_27 : decode cM_pagesThat 27 = .ok (.ishl, 1) := by decide +kernel
theorem ddM_pagesThat_28 : decode cM_pagesThat 28 = .ok (.goto 4, 3) := by decide +kernel
theorem ddM_pagesThat_31 : decode cM_pagesThat 31 = .ok (.iconst 0, 1) := by decide +kernel
theorem ddM_pagesThat_32 : decode cM_pagesThat 32 = .ok (.ior, 1) := by decide +kernel
theorem ddM_pagesThat_33 : decode cM_pagesThat 33 = .ok (.istore_n 2, 1) := by decide +kernel
theorem ddM_pagesThat_34 : decode cM_pagesThat 34 = .ok (.iinc 3 1, 3) := by decide +kernel
theorem ddM_pagesThat_37 : decode cM_pagesThat 37 = .ok (.goto (-33), 3) := by decide +kernel
theorem ddM_pagesThat_40 : decode cM_pagesThat 40 = .ok (.iload_n 2, 1) := by decide +kernel
theorem ddM_pagesThat_41 : decode cM_pagesThat 41 = .ok (.ireturn, 1) := by decide +kernel
set_option maxHeartbeats 2000000 in
theorem zBM_pagesThat_32 {G : GXM} {X : CxM} (hG : GokM G) (C : CoM G X cM_pagesThat "HomeFreedModel") (N : mLM X = 4) {d : Nat} (hD : dpM X = d) (hd : 1 ≤ d) {v0 : Nat} {v1 : Int32} {K : Nat → Int32 → Int32 → Int32 → Mem → Option ((Int32 × Mem))} {q : (Int32 × Mem)} (hK : ∀ (v2 : Int32) (v3 : Int32) (M : Mem), K v0 v1 v2 v3 M = some q → ZM G X 4 [(0, .ref v0), (1, .int v1), (2, .int v2), (3, .int v3)] [] M 0 0) (hr : ∀ r : Int32 × Mem, q =  r → EnM G X (some .int) (some (.int r.1)) r.2 0 0) {v3 : Int32} {w0 : Int32} {w1 : Int32} {M : Mem} (h : BM_pagesThat_32 K v0 v1 v3 w0 w1 M = some q) : ZM G X 32 [(0, .ref v0), (1, .int v1), (3, .int v3)] [.int w1, .int w0] M 0 0 := by
  unfold BM_pagesThat_32 at h
  refine zz_ior C ddM_pagesThat_32 ?_
  refine zz_istore_n (L1 := [(2, .int (w0 ||| w1)), (0, .ref v0), (1, .int v1), (3, .int v3)]) C ddM_pagesThat_33 rfl N (by decide) rfl ?_
  refine zz_iinc (v := v3 + 1) (L1 := [(3, .int (v3 + 1)), (2, .int (w0 ||| w1)), (0, .ref v0), (1, .int v1)]) C 3 ddM_pagesThat_34 rfl rfl N (by decide) rfl ?_
  refine zz_goto (tgt := 4) C ddM_pagesThat_37 rfl ?_
  refine zz_loc (L1 := [(0, .ref v0), (1, .int v1), (2, .int (w0 ||| w1)), (3, .int (v3 + 1))]) [2, 3, 1, 0] rfl ?_
  exact hK _ _ _ h
set_option maxHeartbeats 2000000 in
theorem zBM_pagesThat_4 {G : GXM} {X : CxM} (hG : GokM G) (C : CoM G X cM_pagesThat "HomeFreedModel") (N : mLM X = 4) {d : Nat} (hD : dpM X = d) (hd : 1 ≤ d) {v0 : Nat} {v1 : Int32} {K : Nat → Int32 → Int32 → Int32 → Mem → Option ((Int32 × Mem))} {q : (Int32 × Mem)} (hK : ∀ (v2 : Int32) (v3 : Int32) (M : Mem), K v0 v1 v2 v3 M = some q → ZM G X 4 [(0, .ref v0), (1, .int v1), (2, .int v2), (3, .int v3)] [] M 0 0) (hr : ∀ r : Int32 × Mem, q =  r → EnM G X (some .int) (some (.int r.1)) r.2 0 0) {v2 : Int32} {v3 : Int32} {M : Mem} (h : BM_pagesThat_4 K v0 v1 v2 v3 M = some q) : ZM G X 4 [(0, .ref v0), (1, .int v1), (2, .int v2), (3, .int v3)] [] M 0 0 := by
  unfold BM_pagesThat_4 at h
  refine zz_iload_n C 3 ddM_pagesThat_4 rfl rfl ?_
  refine zz_aload_n C 0 ddM_pagesThat_5 rfl rfl ?_
  obtain ⟨h1, h⟩ := gdN h
  obtain ⟨h2, h⟩ := gdN h
  refine zz_getr C ddM_pagesThat_6 fl_M_19 rfl h1 (of_decide_eq_true h2) ?_
  refine zz_iconst (v := 1) C ddM_pagesThat_9 (by decide) ?_
  obtain ⟨h3, h⟩ := gdN h
  refine zz_iaload C ddM_pagesThat_10 h3 ?_
  refine zz_icmp_ge (tgt := 40) C ddM_pagesThat_11 rfl (fun hc => ?_) (fun hc => ?_)
  · replace h := iteT h hc
    refine zz_iload_n C 2 ddM_pagesThat_40 rfl rfl ?_
    exact zz_iret C (hr _ (Option.some.inj h).symm) ddM_pagesThat_41
  · replace h := iteF h hc
    refine zz_iload_n C 2 ddM_pagesThat_14 rfl rfl ?_
    refine zz_aload_n C 0 ddM_pagesThat_15 rfl rfl ?_
    refine zz_iload_n C 3 ddM_pagesThat_16 rfl rfl ?_
    refine zz_iconst (v := 0) C ddM_pagesThat_17 (by decide) ?_
    obtain ⟨q4, hq4, h⟩ := bindN h
    refine zz_callV0 (As := [.int v3, .int 0]) C ddM_pagesThat_18 wd_1378 my_M_of mv_M_of ⟨_, rfl, rfl⟩ (xM_of hG (d - 1) (by omega) hq4) (by omega) h1 rfl rfl (Nat.le_of_ble_eq_true rfl) ?_
    refine zz_iload_n C 1 ddM_pagesThat_21 rfl rfl ?_
    refine zz_icmp_ne (tgt := 31) C ddM_pagesThat_22 rfl (fun hc => ?_) (fun hc => ?_)
    · replace h := iteF h hc
      refine zz_iconst (v := 0) C ddM_pagesThat_31 (by decide) ?_
      refine zz_loc (L1 := [(0, .ref v0), (1, .int v1), (3, .int v3)]) [0, 1, 3] rfl ?_
      exact zBM_pagesThat_32 hG C N hD hd hK hr h
    · replace h := iteT h hc
      refine zz_iconst (v := 1) C ddM_pagesThat_25 (by decide) ?_
      refine zz_iload_n C 3 ddM_pagesThat_26 rfl rfl ?_
      refine zz_ishl C ddM_pagesThat_27 ?_
      refine zz_goto (tgt := 32) C ddM_pagesThat_28 rfl ?_
      refine zz_loc (L1 := [(0, .ref v0), (1, .int v1), (3, .int v3)]) [0, 1, 3] rfl ?_
      exact zBM_pagesThat_32 hG C N hD hd hK hr h
set_option maxHeartbeats 2000000 in
theorem zLM_pagesThat_4 {G : GXM} {X : CxM} (hG : GokM G) (C : CoM G X cM_pagesThat "HomeFreedModel") (N : mLM X = 4) {d : Nat} (hD : dpM X = d) (hd : 1 ≤ d) {v0 : Nat} {v1 : Int32} {q : (Int32 × Mem)} : ∀ (f : Nat) (v2 : Int32) (v3 : Int32) (M : Mem), LM_pagesThat_4 f v0 v1 v2 v3 M = some q → (hr : ∀ r : Int32 × Mem, q =  r → EnM G X (some .int) (some (.int r.1)) r.2 0 0) → ZM G X 4 [(0, .ref v0), (1, .int v1), (2, .int v2), (3, .int v3)] [] M 0 0 := by
  intro f
  induction f with
  | zero => intro v2 v3 M h; cases h
  | succ f ih =>
    intro v2 v3 M h hr
    exact zBM_pagesThat_4 hG C N hD hd (K := LM_pagesThat_4 f) (q := q) (fun v2 v3 M h => ih v2 v3 M h hr) hr h
set_option maxHeartbeats 2000000 in
theorem xM_pagesThat {G : GXM} {l : Launch} (hG : GokM G) (d : Nat) (hd : 1 ≤ d) {v0 : Nat} {v1 : Int32} {M : Mem} {q : Int32 × Mem} (h : fM_pagesThat v0 v1 M = some q) : ExM G l d 0 0 yM_pagesThat cM_pagesThat 4 (some .int) [.ref v0, .int v1] M (some (.int q.1)) q.2 := by
  refine ex_of hG (by decide +kernel) (Nat.le_of_ble_eq_true rfl) ?_
  intro X hl C E N hD hn
  show ZM G X 0 [(0, .ref v0), (1, .int v1)] [] M 0 0
  unfold fM_pagesThat at h
  refine zz_iconst (v := 0) C ddM_pagesThat_0 (by decide) ?_
  refine zz_istore_n (L1 := [(2, .int 0), (0, .ref v0), (1, .int v1)]) C ddM_pagesThat_1 rfl N (by decide) rfl ?_
  refine zz_iconst (v := 0) C ddM_pagesThat_2 (by decide) ?_
  refine zz_istore_n (L1 := [(3, .int 0), (2, .int 0), (0, .ref v0), (1, .int v1)]) C ddM_pagesThat_3 rfl N (by decide) rfl ?_
  refine zz_loc (L1 := [(0, .ref v0), (1, .int v1), (2, .int 0), (3, .int 0)]) [2, 3, 1, 0] rfl ?_
  obtain ⟨q1, hq1, h⟩ := bindN h
  refine zLM_pagesThat_4 hG C N hD hd 1000000 _ _ _ hq1 ?_
  · intro r2 eq1; replace eq1 := eq1.symm; subst eq1
    obtain rfl := Option.some.inj h
    exact E
theorem ddM_outMany_0 : decode cM_outMany 0 = .ok (.iconst 0, 1) := by decide +kernel
theorem ddM_outMany_1 : decode cM_outMany 1 = .ok (.istore_n 1, 1) := by decide +kernel
theorem ddM_outMany_2 : decode cM_outMany 2 = .ok (.iconst 0, 1) := by decide +kernel
theorem ddM_outMany_3 : decode cM_outMany 3 = .ok (.istore_n 2, 1) := by decide +kernel
theorem ddM_outMany_4 : decode cM_outMany 4 = .ok (.iload_n 2, 1) := by decide +kernel
theorem ddM_outMany_5 : decode cM_outMany 5 = .ok (.aload_n 0, 1) := by decide +kernel
theorem ddM_outMany_6 : decode cM_outMany 6 = .ok (.getfield 19, 3) := by decide +kernel
theorem ddM_outMany_9 : decode cM_outMany 9 = .ok (.iconst 0, 1) := by decide +kernel
theorem ddM_outMany_10 : decode cM_outMany 10 = .ok (.iaload, 1) := by decide +kernel
theorem ddM_outMany_11 : decode cM_outMany 11 = .ok (.if_icmp .ge 17, 3) := by decide +kernel
theorem ddM_outMany_14 : decode cM_outMany 14 = .ok (.iload_n 1, 1) := by decide +kernel
theorem ddM_outMany_15 : decode cM_outMany 15 = .ok (.aload_n 0, 1) := by decide +kernel
theorem ddM_outMany_16 : decode cM_outMany 16 = .ok (.iload_n 2, 1) := by decide +kernel
theorem ddM_outMany_17 : decode cM_outMany 17 = .ok (.invokevirtual 303, 3) := by decide +kernel
theorem ddM_outMany_20 : decode cM_outMany 20 = .ok (.iadd, 1) := by decide +kernel
theorem ddM_outMany_21 : decode cM_outMany 21 = .ok (.istore_n 1, 1) := by decide +kernel
theorem ddM_outMany_22 : decode cM_outMany 22 = .ok (.iinc 2 1, 3) := by decide +kernel
theorem ddM_outMany_25 : decode cM_outMany 25 = .ok (.goto (-21), 3) := by decide +kernel
theorem ddM_outMany_28 : decode cM_outMany 28 = .ok (.iload_n 1, 1) := by decide +kernel
theorem ddM_outMany_29 : decode cM_outMany 29 = .ok (.ireturn, 1) := by decide +kernel
set_option maxHeartbeats 2000000 in
theorem zBM_outMany_4 {G : GXM} {X : CxM} (hG : GokM G) (C : CoM G X cM_outMany "HomeFreedModel") (N : mLM X = 3) {d : Nat} (hD : dpM X = d) (hd : 2 ≤ d) {v0 : Nat} {K : Nat → Int32 → Int32 → Mem → Option ((Int32 × Mem))} {q : (Int32 × Mem)} (hK : ∀ (v1 : Int32) (v2 : Int32) (M : Mem), K v0 v1 v2 M = some q → ZM G X 4 [(0, .ref v0), (1, .int v1), (2, .int v2)] [] M 0 0) (hr : ∀ r : Int32 × Mem, q =  r → EnM G X (some .int) (some (.int r.1)) r.2 0 0) {v1 : Int32} {v2 : Int32} {M : Mem} (h : BM_outMany_4 K v0 v1 v2 M = some q) : ZM G X 4 [(0, .ref v0), (1, .int v1), (2, .int v2)] [] M 0 0 := by
  unfold BM_outMany_4 at h
  refine zz_iload_n C 2 ddM_outMany_4 rfl rfl ?_
  refine zz_aload_n C 0 ddM_outMany_5 rfl rfl ?_
  obtain ⟨h1, h⟩ := gdN h
  obtain ⟨h2, h⟩ := gdN h
  refine zz_getr C ddM_outMany_6 fl_M_19 rfl h1 (of_decide_eq_true h2) ?_
  refine zz_iconst (v := 0) C ddM_outMany_9 (by decide) ?_
  obtain ⟨h3, h⟩ := gdN h
  refine zz_iaload C ddM_outMany_10 h3 ?_
  refine zz_icmp_ge (tgt := 28) C ddM_outMany_11 rfl (fun hc => ?_) (fun hc => ?_)
  · replace h := iteT h hc
    refine zz_iload_n C 1 ddM_outMany_28 rfl rfl ?_
    exact zz_iret C (hr _ (Option.some.inj h).symm) ddM_outMany_29
  · replace h := iteF h hc
    refine zz_iload_n C 1 ddM_outMany_14 rfl rfl ?_
    refine zz_aload_n C 0 ddM_outMany_15 rfl rfl ?_
    refine zz_iload_n C 2 ddM_outMany_16 rfl rfl ?_
    obtain ⟨q4, hq4, h⟩ := bindN h
    refine zz_callV0 (As := [.int v2]) C ddM_outMany_17 wd_1421 my_M_boxedBy mv_M_boxedBy ⟨_, rfl, rfl⟩ (xM_boxedBy hG (d - 1) (by omega) hq4) (by omega) h1 rfl rfl (Nat.le_of_ble_eq_true rfl) ?_
    refine zz_iadd C ddM_outMany_20 ?_
    refine zz_istore_n (L1 := [(1, .int (v1 + q4.1)), (0, .ref v0), (2, .int v2)]) C ddM_outMany_21 rfl N (by decide) rfl ?_
    refine zz_iinc (v := v2 + 1) (L1 := [(2, .int (v2 + 1)), (1, .int (v1 + q4.1)), (0, .ref v0)]) C 2 ddM_outMany_22 rfl rfl N (by decide) rfl ?_
    refine zz_goto (tgt := 4) C ddM_outMany_25 rfl ?_
    refine zz_loc (L1 := [(0, .ref v0), (1, .int (v1 + q4.1)), (2, .int (v2 + 1))]) [2, 1, 0] rfl ?_
    exact hK _ _ _ h
set_option maxHeartbeats 2000000 in
theorem zLM_outMany_4 {G : GXM} {X : CxM} (hG : GokM G) (C : CoM G X cM_outMany "HomeFreedModel") (N : mLM X = 3) {d : Nat} (hD : dpM X = d) (hd : 2 ≤ d) {v0 : Nat} {q : (Int32 × Mem)} : ∀ (f : Nat) (v1 : Int32) (v2 : Int32) (M : Mem), LM_outMany_4 f v0 v1 v2 M = some q → (hr : ∀ r : Int32 × Mem, q =  r → EnM G X (some .int) (some (.int r.1)) r.2 0 0) → ZM G X 4 [(0, .ref v0), (1, .int v1), (2, .int v2)] [] M 0 0 := by
  intro f
  induction f with
  | zero => intro v1 v2 M h; cases h
  | succ f ih =>
    intro v1 v2 M h hr
    exact zBM_outMany_4 hG C N hD hd (K := LM_outMany_4 f) (q := q) (fun v1 v2 M h => ih v1 v2 M h hr) hr h
set_option maxHeartbeats 2000000 in
theorem xM_outMany {G : GXM} {l : Launch} (hG : GokM G) (d : Nat) (hd : 2 ≤ d) {v0 : Nat} {M : Mem} {q : Int32 × Mem} (h : fM_outMany v0 M = some q) : ExM G l d 0 0 yM_outMany cM_outMany 3 (some .int) [.ref v0] M (some (.int q.1)) q.2 := by
  refine ex_of hG (by decide +kernel) (Nat.le_of_ble_eq_true rfl) ?_
  intro X hl C E N hD hn
  show ZM G X 0 [(0, .ref v0)] [] M 0 0
  unfold fM_outMany at h
  refine zz_iconst (v := 0) C ddM_outMany_0 (by decide) ?_
  refine zz_istore_n (L1 := [(1, .int 0), (0, .ref v0)]) C ddM_outMany_1 rfl N (by decide) rfl ?_
  refine zz_iconst (v := 0) C ddM_outMany_2 (by decide) ?_
  refine zz_istore_n (L1 := [(2, .int 0), (1, .int 0), (0, .ref v0)]) C ddM_outMany_3 rfl N (by decide) rfl ?_
  refine zz_loc (L1 := [(0, .ref v0), (1, .int 0), (2, .int 0)]) [2, 1, 0] rfl ?_
  obtain ⟨q1, hq1, h⟩ := bindN h
  refine zLM_outMany_4 hG C N hD hd 1000000 _ _ _ hq1 ?_
  · intro r2 eq1; replace eq1 := eq1.symm; subst eq1
    obtain rfl := Option.some.inj h
    exact E
theorem ddM_idle_0 : decode cM_idle 0 = .ok (.iconst 0, 1) := by decide +kernel
theorem ddM_idle_1 : decode cM_idle 1 = .ok (.istore_n 1, 1) := by decide +kernel
theorem ddM_idle_2 : decode cM_idle 2 = .ok (.iconst 0, 1) := by decide +kernel
theorem ddM_idle_3 : decode cM_idle 3 = .ok (.istore_n 2, 1) := by decide +kernel
theorem ddM_idle_4 : decode cM_idle 4 = .ok (.iload_n 2, 1) := by decide +kernel
theorem ddM_idle_5 : decode cM_idle 5 = .ok (.aload_n 0, 1) := by decide +kernel
theorem ddM_idle_6 : decode cM_idle 6 = .ok (.getfield 19, 3) := by decide +kernel
theorem ddM_idle_9 : decode cM_idle 9 = .ok (.iconst 1, 1) := by decide +kernel
theorem ddM_idle_10 : decode cM_idle 10 = .ok (.iaload, 1) := by decide +kernel
theorem ddM_idle_11 : decode cM_idle 11 = .ok (.if_icmp .ge 49, 3) := by decide +kernel
theorem ddM_idle_14 : decode cM_idle 14 = .ok (.iload_n 1, 1) := by decide +kernel
theorem ddM_idle_15 : decode cM_idle 15 = .ok (.aload_n 0, 1) := by decide +kernel
theorem ddM_idle_16 : decode cM_idle 16 = .ok (.iload_n 2, 1) := by decide +kernel
theorem ddM_idle_17 : decode cM_idle 17 = .ok (.iconst 0, 1) := by decide +kernel
theorem ddM_idle_18 : decode cM_idle 18 = .ok (.invokevirtual 170, 3) := by decide +kernel
theorem ddM_idle_21 : decode cM_idle 21 = .ok (.ifCond .ne 7, 3) := by decide +kernel
theorem ddM_idle_24 : decode cM_idle 24 = .ok (.iconst 0, 1) := by decide +kernel
theorem ddM_idle_25 : decode cM_idle 25 = .ok (.goto 27, 3) := by decide +kernel
theorem ddM_idle_28 : decode cM_idle 28 = .ok (.aload_n 0, 1) := by decide +kernel
theorem ddM_idle_29 : decode cM_idle 29 = .ok (.getfield 19, 3) := by decide +kernel
theorem ddM_idle_32 : decode cM_idle 32 = .ok (.iconst 2, 1) := by decide +kernel
theorem ddM_idle_33 : decode cM_idle 33 = .ok (.iaload, 1) := by decide +kernel
theorem ddM_idle_34 : decode cM_idle 34 = .ok (.aload_n 0, 1) := by decide +kernel
theorem ddM_idle_35 : decode cM_idle 35 = .ok (.iload_n 2, 1) := by decide +kernel
theorem ddM_idle_36 : decode cM_idle 36 = .ok (.invokevirtual 201, 3) := by decide +kernel
theorem ddM_idle_39 : decode cM_idle 39 = .ok (.aload_n 0, 1) := by decide +kernel
theorem ddM_idle_40 : decode cM_idle 40 = .ok (.getfield 22, 3) := by decide +kernel
theorem ddM_idle_43 : decode cM_idle 43 = .ok (.aload_n 0, 1) := by decide +kernel
theorem ddM_idle_44 : decode cM_idle 44 = .ok (.iload_n 2, 1) := by decide +kernel
theorem ddM_idle_45 : decode cM_idle 45 = .ok (.iconst 2, 1) := by decide +kernel
theorem ddM_idle_46 : decode cM_idle 46 = .ok (.invokevirtual 170, 3) := by decide +kernel
theorem ddM_idle_49 : decode cM_idle 49 = .ok (.iaload, 1) := by decide +kernel
theorem ddM_idle_50 : decode cM_idle 50 = .ok (.imul, 1) := by decide +kernel
theorem ddM_idle_51 : decode cM_idle 51 = .ok (.isub, 1) := by decide +kernel
theorem ddM_idle_52 : decode cM_idle 52 = .ok (.iadd, 1) := by decide +kernel
theorem ddM_idle_53 : decode cM_idle 53 = .ok (.istore_n 1, 1) := by decide +kernel
theorem ddM_idle_54 : decode cM_idle 54 = .ok (.iinc 2 1, 3) := by decide +kernel
theorem ddM_idle_57 : decode cM_idle 57 = .ok (.goto (-53), 3) := by decide +kernel
theorem ddM_idle_60 : decode cM_idle 60 = .ok (.iload_n 1, 1) := by decide +kernel
theorem ddM_idle_61 : decode cM_idle 61 = .ok (.ireturn, 1) := by decide +kernel
set_option maxHeartbeats 2000000 in
theorem zBM_idle_52 {G : GXM} {X : CxM} (hG : GokM G) (C : CoM G X cM_idle "HomeFreedModel") (N : mLM X = 3) {d : Nat} (hD : dpM X = d) (hd : 3 ≤ d) {v0 : Nat} {K : Nat → Int32 → Int32 → Mem → Option ((Int32 × Mem))} {q : (Int32 × Mem)} (hK : ∀ (v1 : Int32) (v2 : Int32) (M : Mem), K v0 v1 v2 M = some q → ZM G X 4 [(0, .ref v0), (1, .int v1), (2, .int v2)] [] M 0 0) (hr : ∀ r : Int32 × Mem, q =  r → EnM G X (some .int) (some (.int r.1)) r.2 0 0) {v2 : Int32} {w0 : Int32} {w1 : Int32} {M : Mem} (h : BM_idle_52 K v0 v2 w0 w1 M = some q) : ZM G X 52 [(0, .ref v0), (2, .int v2)] [.int w1, .int w0] M 0 0 := by
  unfold BM_idle_52 at h
  refine zz_iadd C ddM_idle_52 ?_
  refine zz_istore_n (L1 := [(1, .int (w0 + w1)), (0, .ref v0), (2, .int v2)]) C ddM_idle_53 rfl N (by decide) rfl ?_
  refine zz_iinc (v := v2 + 1) (L1 := [(2, .int (v2 + 1)), (1, .int (w0 + w1)), (0, .ref v0)]) C 2 ddM_idle_54 rfl rfl N (by decide) rfl ?_
  refine zz_goto (tgt := 4) C ddM_idle_57 rfl ?_
  refine zz_loc (L1 := [(0, .ref v0), (1, .int (w0 + w1)), (2, .int (v2 + 1))]) [2, 1, 0] rfl ?_
  exact hK _ _ _ h
set_option maxHeartbeats 2000000 in
theorem zBM_idle_4 {G : GXM} {X : CxM} (hG : GokM G) (C : CoM G X cM_idle "HomeFreedModel") (N : mLM X = 3) {d : Nat} (hD : dpM X = d) (hd : 3 ≤ d) {v0 : Nat} {K : Nat → Int32 → Int32 → Mem → Option ((Int32 × Mem))} {q : (Int32 × Mem)} (hK : ∀ (v1 : Int32) (v2 : Int32) (M : Mem), K v0 v1 v2 M = some q → ZM G X 4 [(0, .ref v0), (1, .int v1), (2, .int v2)] [] M 0 0) (hr : ∀ r : Int32 × Mem, q =  r → EnM G X (some .int) (some (.int r.1)) r.2 0 0) {v1 : Int32} {v2 : Int32} {M : Mem} (h : BM_idle_4 K v0 v1 v2 M = some q) : ZM G X 4 [(0, .ref v0), (1, .int v1), (2, .int v2)] [] M 0 0 := by
  unfold BM_idle_4 at h
  refine zz_iload_n C 2 ddM_idle_4 rfl rfl ?_
  refine zz_aload_n C 0 ddM_idle_5 rfl rfl ?_
  obtain ⟨h1, h⟩ := gdN h
  obtain ⟨h2, h⟩ := gdN h
  refine zz_getr C ddM_idle_6 fl_M_19 rfl h1 (of_decide_eq_true h2) ?_
  refine zz_iconst (v := 1) C ddM_idle_9 (by decide) ?_
  obtain ⟨h3, h⟩ := gdN h
  refine zz_iaload C ddM_idle_10 h3 ?_
  refine zz_icmp_ge (tgt := 60) C ddM_idle_11 rfl (fun hc => ?_) (fun hc => ?_)
  · replace h := iteT h hc
    refine zz_iload_n C 1 ddM_idle_60 rfl rfl ?_
    exact zz_iret C (hr _ (Option.some.inj h).symm) ddM_idle_61
  · replace h := iteF h hc
    refine zz_iload_n C 1 ddM_idle_14 rfl rfl ?_
    refine zz_aload_n C 0 ddM_idle_15 rfl rfl ?_
    refine zz_iload_n C 2 ddM_idle_16 rfl rfl ?_
    refine zz_iconst (v := 0) C ddM_idle_17 (by decide) ?_
    obtain ⟨q4, hq4, h⟩ := bindN h
    refine zz_callV0 (As := [.int v2, .int 0]) C ddM_idle_18 wd_1378 my_M_of mv_M_of ⟨_, rfl, rfl⟩ (xM_of hG (d - 1) (by omega) hq4) (by omega) h1 rfl rfl (Nat.le_of_ble_eq_true rfl) ?_
    refine zz_if_ne (tgt := 28) C ddM_idle_21 rfl (fun hc => ?_) (fun hc => ?_)
    · replace h := iteF h hc
      refine zz_aload_n C 0 ddM_idle_28 rfl rfl ?_
      obtain ⟨h5, h⟩ := gdN h
      obtain ⟨h6, h⟩ := gdN h
      refine zz_getr C ddM_idle_29 fl_M_19 rfl h5 (of_decide_eq_true h6) ?_
      refine zz_iconst (v := 2) C ddM_idle_32 (by decide) ?_
      obtain ⟨h7, h⟩ := gdN h
      refine zz_iaload C ddM_idle_33 h7 ?_
      refine zz_aload_n C 0 ddM_idle_34 rfl rfl ?_
      refine zz_iload_n C 2 ddM_idle_35 rfl rfl ?_
      obtain ⟨q8, hq8, h⟩ := bindN h
      refine zz_callV0 (As := [.int v2]) C ddM_idle_36 wd_1386 my_M_usedOf mv_M_usedOf ⟨_, rfl, rfl⟩ (xM_usedOf hG (d - 1) (by omega) hq8) (by omega) h5 rfl rfl (Nat.le_of_ble_eq_true rfl) ?_
      refine zz_aload_n C 0 ddM_idle_39 rfl rfl ?_
      obtain ⟨h9, h⟩ := gdN h
      obtain ⟨h10, h⟩ := gdN h
      refine zz_getr C ddM_idle_40 fl_M_22 rfl h9 (of_decide_eq_true h10) ?_
      refine zz_aload_n C 0 ddM_idle_43 rfl rfl ?_
      refine zz_iload_n C 2 ddM_idle_44 rfl rfl ?_
      refine zz_iconst (v := 2) C ddM_idle_45 (by decide) ?_
      obtain ⟨q11, hq11, h⟩ := bindN h
      refine zz_callV0 (As := [.int v2, .int 2]) C ddM_idle_46 wd_1378 my_M_of mv_M_of ⟨_, rfl, rfl⟩ (xM_of hG (d - 1) (by omega) hq11) (by omega) h9 rfl rfl (Nat.le_of_ble_eq_true rfl) ?_
      obtain ⟨h12, h⟩ := gdN h
      refine zz_iaload C ddM_idle_49 h12 ?_
      refine zz_imul C ddM_idle_50 ?_
      refine zz_isub C ddM_idle_51 ?_
      refine zz_loc (L1 := [(0, .ref v0), (2, .int v2)]) [0, 2] rfl ?_
      exact zBM_idle_52 hG C N hD hd hK hr h
    · replace h := iteT h hc
      refine zz_iconst (v := 0) C ddM_idle_24 (by decide) ?_
      refine zz_goto (tgt := 52) C ddM_idle_25 rfl ?_
      refine zz_loc (L1 := [(0, .ref v0), (2, .int v2)]) [0, 2] rfl ?_
      exact zBM_idle_52 hG C N hD hd hK hr h
set_option maxHeartbeats 2000000 in
theorem zLM_idle_4 {G : GXM} {X : CxM} (hG : GokM G) (C : CoM G X cM_idle "HomeFreedModel") (N : mLM X = 3) {d : Nat} (hD : dpM X = d) (hd : 3 ≤ d) {v0 : Nat} {q : (Int32 × Mem)} : ∀ (f : Nat) (v1 : Int32) (v2 : Int32) (M : Mem), LM_idle_4 f v0 v1 v2 M = some q → (hr : ∀ r : Int32 × Mem, q =  r → EnM G X (some .int) (some (.int r.1)) r.2 0 0) → ZM G X 4 [(0, .ref v0), (1, .int v1), (2, .int v2)] [] M 0 0 := by
  intro f
  induction f with
  | zero => intro v1 v2 M h; cases h
  | succ f ih =>
    intro v1 v2 M h hr
    exact zBM_idle_4 hG C N hD hd (K := LM_idle_4 f) (q := q) (fun v1 v2 M h => ih v1 v2 M h hr) hr h
set_option maxHeartbeats 2000000 in
theorem xM_idle {G : GXM} {l : Launch} (hG : GokM G) (d : Nat) (hd : 3 ≤ d) {v0 : Nat} {M : Mem} {q : Int32 × Mem} (h : fM_idle v0 M = some q) : ExM G l d 0 0 yM_idle cM_idle 3 (some .int) [.ref v0] M (some (.int q.1)) q.2 := by
  refine ex_of hG (by decide +kernel) (Nat.le_of_ble_eq_true rfl) ?_
  intro X hl C E N hD hn
  show ZM G X 0 [(0, .ref v0)] [] M 0 0
  unfold fM_idle at h
  refine zz_iconst (v := 0) C ddM_idle_0 (by decide) ?_
  refine zz_istore_n (L1 := [(1, .int 0), (0, .ref v0)]) C ddM_idle_1 rfl N (by decide) rfl ?_
  refine zz_iconst (v := 0) C ddM_idle_2 (by decide) ?_
  refine zz_istore_n (L1 := [(2, .int 0), (1, .int 0), (0, .ref v0)]) C ddM_idle_3 rfl N (by decide) rfl ?_
  refine zz_loc (L1 := [(0, .ref v0), (1, .int 0), (2, .int 0)]) [2, 1, 0] rfl ?_
  obtain ⟨q1, hq1, h⟩ := bindN h
  refine zLM_idle_4 hG C N hD hd 1000000 _ _ _ hq1 ?_
  · intro r2 eq1; replace eq1 := eq1.symm; subst eq1
    obtain rfl := Option.some.inj h
    exact E
theorem ddM_foreign_0 : decode cM_foreign 0 = .ok (.iconst 0, 1) := by decide +kernel
theorem ddM_foreign_1 : decode cM_foreign 1 = .ok (.istore_n 1, 1) := by decide +kernel
theorem ddM_foreign_2 : decode cM_foreign 2 = .ok (.iconst 0, 1) := by decide +kernel
theorem ddM_foreign_3 : decode cM_foreign 3 = .ok (.istore_n 2, 1) := by decide +kernel
theorem ddM_foreign_4 : decode cM_foreign 4 = .ok (.iload_n 2, 1) := by decide +kernel
theorem ddM_foreign_5 : decode cM_foreign 5 = .ok (.aload_n 0, 1) := by decide +kernel
theorem ddM_foreign_6 : decode cM_foreign 6 = .ok (.getfield 19, 3) := by decide +kernel
theorem ddM_foreign_9 : decode cM_foreign 9 = .ok (.iconst 1, 1) := by decide +kernel
theorem ddM_foreign_10 : decode cM_foreign 10 = .ok (.iaload, 1) := by decide +kernel
theorem ddM_foreign_11 : decode cM_foreign 11 = .ok (.if_icmp .ge 22, 3) := by decide +kernel
theorem ddM_foreign_14 : decode cM_foreign 14 = .ok (.iload_n 1, 1) := by decide +kernel
theorem ddM_foreign_15 : decode cM_foreign 15 = .ok (.aload_n 0, 1) := by decide +kernel
theorem ddM_foreign_16 : decode cM_foreign 16 = .ok (.getfield 31, 3) := by decide +kernel
theorem ddM_foreign_19 : decode cM_foreign 19 = .ok (.iload_n 2, 1) := by decide +kernel
theorem ddM_foreign_20 : decode cM_foreign 20 = .ok (.iconst 2, 1) := by decide +kernel
theorem ddM_foreign_21 : decode cM_foreign 21 = .ok (.invokestatic 173, 3) := by decide +kernel
theorem ddM_foreign_24 : decode cM_foreign 24 = .ok (.iaload, 1) := by decide +kernel
theorem ddM_foreign_25 : decode cM_foreign 25 = .ok (.iadd, 1) := by decide +kernel
theorem ddM_foreign_26 : decode cM_foreign 26 = .ok (.istore_n 1, 1) := by decide +kernel
theorem ddM_foreign_27 : decode cM_foreign 27 = .ok (.iinc 2 1, 3) := by decide +kernel
theorem ddM_foreign_30 : decode cM_foreign 30 = .ok (.goto (-26), 3) := by decide +kernel
theorem ddM_foreign_33 : decode cM_foreign 33 = .ok (.iload_n 1, 1) := by decide +kernel
theorem ddM_foreign_34 : decode cM_foreign 34 = .ok (.ireturn, 1) := by decide +kernel
set_option maxHeartbeats 2000000 in
theorem zBM_foreign_4 {G : GXM} {X : CxM} (hG : GokM G) (C : CoM G X cM_foreign "HomeFreedModel") (N : mLM X = 3) {d : Nat} (hD : dpM X = d) (hd : 1 ≤ d) {v0 : Nat} {K : Nat → Int32 → Int32 → Mem → Option ((Int32 × Mem))} {q : (Int32 × Mem)} (hK : ∀ (v1 : Int32) (v2 : Int32) (M : Mem), K v0 v1 v2 M = some q → ZM G X 4 [(0, .ref v0), (1, .int v1), (2, .int v2)] [] M 0 0) (hr : ∀ r : Int32 × Mem, q =  r → EnM G X (some .int) (some (.int r.1)) r.2 0 0) {v1 : Int32} {v2 : Int32} {M : Mem} (h : BM_foreign_4 K v0 v1 v2 M = some q) : ZM G X 4 [(0, .ref v0), (1, .int v1), (2, .int v2)] [] M 0 0 := by
  unfold BM_foreign_4 at h
  refine zz_iload_n C 2 ddM_foreign_4 rfl rfl ?_
  refine zz_aload_n C 0 ddM_foreign_5 rfl rfl ?_
  obtain ⟨h1, h⟩ := gdN h
  obtain ⟨h2, h⟩ := gdN h
  refine zz_getr C ddM_foreign_6 fl_M_19 rfl h1 (of_decide_eq_true h2) ?_
  refine zz_iconst (v := 1) C ddM_foreign_9 (by decide) ?_
  obtain ⟨h3, h⟩ := gdN h
  refine zz_iaload C ddM_foreign_10 h3 ?_
  refine zz_icmp_ge (tgt := 33) C ddM_foreign_11 rfl (fun hc => ?_) (fun hc => ?_)
  · replace h := iteT h hc
    refine zz_iload_n C 1 ddM_foreign_33 rfl rfl ?_
    exact zz_iret C (hr _ (Option.some.inj h).symm) ddM_foreign_34
  · replace h := iteF h hc
    refine zz_iload_n C 1 ddM_foreign_14 rfl rfl ?_
    refine zz_aload_n C 0 ddM_foreign_15 rfl rfl ?_
    obtain ⟨h4, h⟩ := gdN h
    refine zz_getr C ddM_foreign_16 fl_M_31 rfl h1 (of_decide_eq_true h4) ?_
    refine zz_iload_n C 2 ddM_foreign_19 rfl rfl ?_
    refine zz_iconst (v := 2) C ddM_foreign_20 (by decide) ?_
    obtain ⟨q5, hq5, h⟩ := bindN h
    refine zz_callS0 (As := [.int v2, .int 2]) C ddM_foreign_21 wd_1398 my_M_listAt mv_M_listAt (xM_listAt hG (d - 1) (by omega) hq5) (by omega) rfl rfl (Nat.le_of_ble_eq_true rfl) ?_
    obtain ⟨h6, h⟩ := gdN h
    refine zz_iaload C ddM_foreign_24 h6 ?_
    refine zz_iadd C ddM_foreign_25 ?_
    refine zz_istore_n (L1 := [(1, .int (v1 + (giM q5.2 (grM M v0 15) (Int32.toNatClampNeg q5.1)))), (0, .ref v0), (2, .int v2)]) C ddM_foreign_26 rfl N (by decide) rfl ?_
    refine zz_iinc (v := v2 + 1) (L1 := [(2, .int (v2 + 1)), (1, .int (v1 + (giM q5.2 (grM M v0 15) (Int32.toNatClampNeg q5.1)))), (0, .ref v0)]) C 2 ddM_foreign_27 rfl rfl N (by decide) rfl ?_
    refine zz_goto (tgt := 4) C ddM_foreign_30 rfl ?_
    refine zz_loc (L1 := [(0, .ref v0), (1, .int (v1 + (giM q5.2 (grM M v0 15) (Int32.toNatClampNeg q5.1)))), (2, .int (v2 + 1))]) [2, 1, 0] rfl ?_
    exact hK _ _ _ h
set_option maxHeartbeats 2000000 in
theorem zLM_foreign_4 {G : GXM} {X : CxM} (hG : GokM G) (C : CoM G X cM_foreign "HomeFreedModel") (N : mLM X = 3) {d : Nat} (hD : dpM X = d) (hd : 1 ≤ d) {v0 : Nat} {q : (Int32 × Mem)} : ∀ (f : Nat) (v1 : Int32) (v2 : Int32) (M : Mem), LM_foreign_4 f v0 v1 v2 M = some q → (hr : ∀ r : Int32 × Mem, q =  r → EnM G X (some .int) (some (.int r.1)) r.2 0 0) → ZM G X 4 [(0, .ref v0), (1, .int v1), (2, .int v2)] [] M 0 0 := by
  intro f
  induction f with
  | zero => intro v1 v2 M h; cases h
  | succ f ih =>
    intro v1 v2 M h hr
    exact zBM_foreign_4 hG C N hD hd (K := LM_foreign_4 f) (q := q) (fun v1 v2 M h => ih v1 v2 M h hr) hr h
set_option maxHeartbeats 2000000 in
theorem xM_foreign {G : GXM} {l : Launch} (hG : GokM G) (d : Nat) (hd : 1 ≤ d) {v0 : Nat} {M : Mem} {q : Int32 × Mem} (h : fM_foreign v0 M = some q) : ExM G l d 0 0 yM_foreign cM_foreign 3 (some .int) [.ref v0] M (some (.int q.1)) q.2 := by
  refine ex_of hG (by decide +kernel) (Nat.le_of_ble_eq_true rfl) ?_
  intro X hl C E N hD hn
  show ZM G X 0 [(0, .ref v0)] [] M 0 0
  unfold fM_foreign at h
  refine zz_iconst (v := 0) C ddM_foreign_0 (by decide) ?_
  refine zz_istore_n (L1 := [(1, .int 0), (0, .ref v0)]) C ddM_foreign_1 rfl N (by decide) rfl ?_
  refine zz_iconst (v := 0) C ddM_foreign_2 (by decide) ?_
  refine zz_istore_n (L1 := [(2, .int 0), (1, .int 0), (0, .ref v0)]) C ddM_foreign_3 rfl N (by decide) rfl ?_
  refine zz_loc (L1 := [(0, .ref v0), (1, .int 0), (2, .int 0)]) [2, 1, 0] rfl ?_
  obtain ⟨q1, hq1, h⟩ := bindN h
  refine zLM_foreign_4 hG C N hD hd 1000000 _ _ _ hq1 ?_
  · intro r2 eq1; replace eq1 := eq1.symm; subst eq1
    obtain rfl := Option.some.inj h
    exact E
