theorem ddM_canGet_0 : decode cM_canGet 0 = .ok (.iload_n 1, 1) := by decide +kernel
theorem ddM_canGet_1 : decode cM_canGet 1 = .ok (.iload_n 2, 1) := by decide +kernel
theorem ddM_canGet_2 : decode cM_canGet 2 = .ok (.invokestatic 182, 3) := by decide +kernel
theorem ddM_canGet_5 : decode cM_canGet 5 = .ok (.istore_n 3, 1) := by decide +kernel
theorem ddM_canGet_6 : decode cM_canGet 6 = .ok (.iconst 1, 1) := by decide +kernel
theorem ddM_canGet_7 : decode cM_canGet 7 = .ok (.istore 4, 2) := by decide +kernel
theorem ddM_canGet_9 : decode cM_canGet 9 = .ok (.iload 4, 2) := by decide +kernel
theorem ddM_canGet_11 : decode cM_canGet 11 = .ok (.aload_n 0, 1) := by decide +kernel
theorem ddM_canGet_12 : decode cM_canGet 12 = .ok (.getfield 31, 3) := by decide +kernel
theorem ddM_canGet_15 : decode cM_canGet 15 = .ok (.iload_n 3, 1) := by decide +kernel
theorem ddM_canGet_16 : decode cM_canGet 16 = .ok (.iaload, 1) := by decide +kernel
theorem ddM_canGet_17 : decode cM_canGet 17 = .ok (.if_icmp .gt 27, 3) := by decide +kernel
theorem ddM_canGet_20 : decode cM_canGet 20 = .ok (.aload_n 0, 1) := by decide +kernel
theorem ddM_canGet_21 : decode cM_canGet 21 = .ok (.aload_n 0, 1) := by decide +kernel
theorem ddM_canGet_22 : decode cM_canGet 22 = .ok (.getfield 31, 3) := by decide +kernel
theorem ddM_canGet_25 : decode cM_canGet 25 = .ok (.iload_n 3, 1) := by decide +kernel
theorem ddM_canGet_26 : decode cM_canGet 26 = .ok (.iload 4, 2) := by decide +kernel
theorem ddM_canGet_28 : decode cM_canGet 28 = .ok (.iadd, 1) := by decide +kernel
theorem ddM_canGet_29 : decode cM_canGet 29 = .ok (.iaload, 1) := by decide +kernel
theorem ddM_canGet_30 : decode cM_canGet 30 = .ok (.invokevirtual 179, 3) := by decide +kernel
theorem ddM_canGet_33 : decode cM_canGet 33 = .ok (.ifCond .le 5, 3) := by decide +kernel
theorem ddM_canGet_36 : decode cM_canGet 36 = .ok (.iconst 1, 1) := by decide +kernel
theorem ddM_canGet_37 : decode cM_canGet 37 = .ok (.ireturn, 1) := by decide +kernel
theorem ddM_canGet_38 : decode cM_canGet 38 = .ok (.iinc 4 1, 3) := by decide +kernel
theorem ddM_canGet_41 : decode cM_canGet 41 = .ok (.goto (-32), 3) := by decide +kernel
theorem ddM_canGet_44 : decode cM_canGet 44 = .ok (.aload_n 0, 1) := by decide +kernel
theorem ddM_canGet_45 : decode cM_canGet 45 = .ok (.iload_n 2, 1) := by decide +kernel
theorem ddM_canGet_46 : decode cM_canGet 46 = .ok (.iconst 1, 1) := by decide +kernel
theorem ddM_canGet_47 : decode cM_canGet 47 = .ok (.invokevirtual 207, 3) := by decide +kernel
theorem ddM_canGet_50 : decode cM_canGet 50 = .ok (.iconst (-1), 1) := by decide +kernel
theorem ddM_canGet_51 : decode cM_canGet 51 = .ok (.if_icmp .ne 13, 3) := by decide +kernel
theorem ddM_canGet_54 : decode cM_canGet 54 = .ok (.aload_n 0, 1) := by decide +kernel
theorem ddM_canGet_55 : decode cM_canGet 55 = .ok (.iload_n 2, 1) := by decide +kernel
theorem ddM_canGet_56 : decode cM_canGet 56 = .ok (.iconst 0, 1) := by decide +kernel
theorem ddM_canGet_57 : decode cM_canGet 57 = .ok (.invokevirtual 207, 3) := by decide +kernel
theorem ddM_canGet_60 : decode cM_canGet 60 = .ok (.iconst (-1), 1) := by decide +kernel
theorem ddM_canGet_61 : decode cM_canGet 61 = .ok (.if_icmp .eq 7, 3) := by decide +kernel
theorem ddM_canGet_64 : decode cM_canGet 64 = .ok (.iconst 1, 1) := by decide +kernel
theorem ddM_canGet_65 : decode cM_canGet 65 = .ok (.goto 4, 3) := by decide +kernel
theorem ddM_canGet_68 : decode cM_canGet 68 = .ok (.iconst 0, 1) := by decide +kernel
theorem ddM_canGet_69 : decode cM_canGet 69 = .ok (.ireturn, 1) := by decide +kernel
set_option maxHeartbeats 2000000 in
theorem zBM_canGet_69 {G : GXM} {X : CxM} (hG : GokM G) (C : CoM G X cM_canGet "HomeFreedModel") (N : mLM X = 5) {d : Nat} (hD : dpM X = d) (hd : 3 ≤ d)  {q : Int32 × Mem} (E : EnM G X (some .boolean) (some (.int q.1)) q.2 0 0) {w0 : Int32} {M : Mem} (h : BM_canGet_69 w0 M = some q) : ZM G X 69 [] [.int w0] M 0 0 := by
  unfold BM_canGet_69 at h
  obtain ⟨h1, h⟩ := gdN h
  obtain rfl := Option.some.inj h
  exact zz_zret C (of_decide_eq_true h1) E ddM_canGet_69
set_option maxHeartbeats 2000000 in
theorem zBM_canGet_64 {G : GXM} {X : CxM} (hG : GokM G) (C : CoM G X cM_canGet "HomeFreedModel") (N : mLM X = 5) {d : Nat} (hD : dpM X = d) (hd : 3 ≤ d)  {q : Int32 × Mem} (E : EnM G X (some .boolean) (some (.int q.1)) q.2 0 0) {M : Mem} (h : BM_canGet_64 M = some q) : ZM G X 64 [] [] M 0 0 := by
  unfold BM_canGet_64 at h
  refine zz_iconst (v := 1) C ddM_canGet_64 (by decide) ?_
  refine zz_goto (tgt := 69) C ddM_canGet_65 rfl ?_
  exact zBM_canGet_69 hG C N hD hd E h
set_option maxHeartbeats 2000000 in
theorem zBM_canGet_9 {G : GXM} {X : CxM} (hG : GokM G) (C : CoM G X cM_canGet "HomeFreedModel") (N : mLM X = 5) {d : Nat} (hD : dpM X = d) (hd : 3 ≤ d) {v0 : Nat} {v2 : Int32} {v3 : Int32} {K : Nat → Int32 → Int32 → Int32 → Mem → Option ((Int32 × Mem) ⊕ (Mem))} {q : (Int32 × Mem) ⊕ (Mem)} (hK : ∀ (v4 : Int32) (M : Mem), K v0 v2 v3 v4 M = some q → ZM G X 9 [(0, .ref v0), (2, .int v2), (3, .int v3), (4, .int v4)] [] M 0 0) (hr : ∀ r : Int32 × Mem, q = .inl r → EnM G X (some .boolean) (some (.int r.1)) r.2 0 0) (hx0 : ∀ y : Mem, q = (.inr y) → ZM G X 44 [(0, .ref v0), (2, .int v2)] [] y 0 0) {v4 : Int32} {M : Mem} (h : BM_canGet_9 K v0 v2 v3 v4 M = some q) : ZM G X 9 [(0, .ref v0), (2, .int v2), (3, .int v3), (4, .int v4)] [] M 0 0 := by
  unfold BM_canGet_9 at h
  refine zz_iload C 3 ddM_canGet_9 rfl ?_
  refine zz_aload_n C 0 ddM_canGet_11 rfl rfl ?_
  obtain ⟨h1, h⟩ := gdN h
  obtain ⟨h2, h⟩ := gdN h
  refine zz_getr C ddM_canGet_12 fl_M_31 rfl h1 (of_decide_eq_true h2) ?_
  refine zz_iload_n C 2 ddM_canGet_15 rfl rfl ?_
  obtain ⟨h3, h⟩ := gdN h
  refine zz_iaload C ddM_canGet_16 h3 ?_
  refine zz_icmp_gt (tgt := 44) C ddM_canGet_17 rfl (fun hc => ?_) (fun hc => ?_)
  · replace h := iteT h hc
    refine zz_loc (L1 := [(0, .ref v0), (2, .int v2)]) [0, 1] rfl ?_
    exact hx0 _ (Option.some.inj h).symm
  · replace h := iteF h hc
    refine zz_aload_n C 0 ddM_canGet_20 rfl rfl ?_
    refine zz_aload_n C 0 ddM_canGet_21 rfl rfl ?_
    refine zz_getr C ddM_canGet_22 fl_M_31 rfl h1 (of_decide_eq_true h2) ?_
    refine zz_iload_n C 2 ddM_canGet_25 rfl rfl ?_
    refine zz_iload C 3 ddM_canGet_26 rfl ?_
    refine zz_iadd C ddM_canGet_28 ?_
    obtain ⟨h4, h⟩ := gdN h
    refine zz_iaload C ddM_canGet_29 h4 ?_
    obtain ⟨q5, hq5, h⟩ := bindN h
    refine zz_callV0 (As := [.int (giM M (grM M v0 15) (Int32.toNatClampNeg (v3 + v4)))]) C ddM_canGet_30 wd_1394 my_M_listedOf mv_M_listedOf ⟨_, rfl, rfl⟩ (xM_listedOf hG (d - 1) (by omega) hq5) (by omega) h1 rfl rfl (Nat.le_of_ble_eq_true rfl) ?_
    refine zz_if_le (tgt := 38) C ddM_canGet_33 rfl (fun hc => ?_) (fun hc => ?_)
    · replace h := iteT h hc
      refine zz_iinc (v := v4 + 1) (L1 := [(4, .int (v4 + 1)), (0, .ref v0), (2, .int v2), (3, .int v3)]) C 3 ddM_canGet_38 rfl rfl N (by decide) rfl ?_
      refine zz_goto (tgt := 9) C ddM_canGet_41 rfl ?_
      refine zz_loc (L1 := [(0, .ref v0), (2, .int v2), (3, .int v3), (4, .int (v4 + 1))]) [1, 2, 3, 0] rfl ?_
      exact hK _ _ h
    · replace h := iteF h hc
      refine zz_iconst (v := 1) C ddM_canGet_36 (by decide) ?_
      exact zz_zret C (by decide) (hr _ (Option.some.inj h).symm) ddM_canGet_37
set_option maxHeartbeats 2000000 in
theorem zLM_canGet_9 {G : GXM} {X : CxM} (hG : GokM G) (C : CoM G X cM_canGet "HomeFreedModel") (N : mLM X = 5) {d : Nat} (hD : dpM X = d) (hd : 3 ≤ d) {v0 : Nat} {v2 : Int32} {v3 : Int32} {q : (Int32 × Mem) ⊕ (Mem)} : ∀ (f : Nat) (v4 : Int32) (M : Mem), LM_canGet_9 f v0 v2 v3 v4 M = some q → (hr : ∀ r : Int32 × Mem, q = .inl r → EnM G X (some .boolean) (some (.int r.1)) r.2 0 0) → (hx0 : ∀ y : Mem, q = (.inr y) → ZM G X 44 [(0, .ref v0), (2, .int v2)] [] y 0 0) → ZM G X 9 [(0, .ref v0), (2, .int v2), (3, .int v3), (4, .int v4)] [] M 0 0 := by
  intro f
  induction f with
  | zero => intro v4 M h; cases h
  | succ f ih =>
    intro v4 M h hr hx0
    exact zBM_canGet_9 hG C N hD hd (K := LM_canGet_9 f) (q := q) (fun v4 M h => ih v4 M h hr hx0) hr hx0 h
set_option maxHeartbeats 2000000 in
theorem xM_canGet {G : GXM} {l : Launch} (hG : GokM G) (d : Nat) (hd : 3 ≤ d) {v0 : Nat} {v1 : Int32} {v2 : Int32} {M : Mem} {q : Int32 × Mem} (h : fM_canGet v0 v1 v2 M = some q) : ExM G l d 0 0 yM_canGet cM_canGet 5 (some .boolean) [.ref v0, .int v1, .int v2] M (some (.int q.1)) q.2 := by
  refine ex_of hG (by decide +kernel) (Nat.le_of_ble_eq_true rfl) ?_
  intro X hl C E N hD hn
  show ZM G X 0 [(0, .ref v0), (1, .int v1), (2, .int v2)] [] M 0 0
  unfold fM_canGet at h
  refine zz_iload_n C 1 ddM_canGet_0 rfl rfl ?_
  refine zz_iload_n C 2 ddM_canGet_1 rfl rfl ?_
  obtain ⟨q1, hq1, h⟩ := bindN h
  refine zz_callS0 (As := [.int v1, .int v2]) C ddM_canGet_2 wd_1432 my_M_queueAt mv_M_queueAt (xM_queueAt hG (d - 1) (by omega) hq1) (by omega) rfl rfl (Nat.le_of_ble_eq_true rfl) ?_
  refine zz_istore_n (L1 := [(3, .int q1.1), (0, .ref v0), (1, .int v1), (2, .int v2)]) C ddM_canGet_5 rfl N (by decide) rfl ?_
  refine zz_iconst (v := 1) C ddM_canGet_6 (by decide) ?_
  refine zz_istore (L1 := [(4, .int 1), (3, .int q1.1), (0, .ref v0), (1, .int v1), (2, .int v2)]) C ddM_canGet_7 N (by decide) rfl ?_
  refine zz_loc (L1 := [(0, .ref v0), (2, .int v2), (3, .int q1.1), (4, .int 1)]) [2, 4, 1, 0] rfl ?_
  obtain ⟨q2, hq2, h⟩ := bindN h
  refine zLM_canGet_9 hG C N hD hd 1000000 _ _ hq2 ?_ ?_
  · intro r3 eq2; replace eq2 := eq2.symm; subst eq2
    obtain rfl := Option.some.inj h
    exact E
  · intro y4 eq2; replace eq2 := eq2.symm; subst eq2
    refine zz_aload_n C 0 ddM_canGet_44 rfl rfl ?_
    refine zz_iload_n C 1 ddM_canGet_45 rfl rfl ?_
    refine zz_iconst (v := 1) C ddM_canGet_46 (by decide) ?_
    obtain ⟨h6, h⟩ := gdN h
    obtain ⟨q5, hq5, h⟩ := bindN h
    refine zz_callV0 (As := [.int v2, .int 1]) C ddM_canGet_47 wd_1471 my_M_otherPage mv_M_otherPage ⟨_, rfl, rfl⟩ (xM_otherPage hG (d - 1) (by omega) hq5) (by omega) h6 rfl rfl (Nat.le_of_ble_eq_true rfl) ?_
    refine zz_iconst (v := (-1)) C ddM_canGet_50 (by decide) ?_
    refine zz_icmp_ne (tgt := 64) C ddM_canGet_51 rfl (fun hc => ?_) (fun hc => ?_)
    · replace h := iteF h hc
      refine zz_loc (L1 := []) [] rfl ?_
      exact zBM_canGet_64 hG C N hD hd E h
    · replace h := iteT h hc
      refine zz_aload_n C 0 ddM_canGet_54 rfl rfl ?_
      refine zz_iload_n C 1 ddM_canGet_55 rfl rfl ?_
      refine zz_iconst (v := 0) C ddM_canGet_56 (by decide) ?_
      obtain ⟨h8, h⟩ := gdN h
      obtain ⟨q7, hq7, h⟩ := bindN h
      refine zz_callV0 (As := [.int v2, .int 0]) C ddM_canGet_57 wd_1471 my_M_otherPage mv_M_otherPage ⟨_, rfl, rfl⟩ (xM_otherPage hG (d - 1) (by omega) hq7) (by omega) h8 rfl rfl (Nat.le_of_ble_eq_true rfl) ?_
      refine zz_iconst (v := (-1)) C ddM_canGet_60 (by decide) ?_
      refine zz_icmp_eq (tgt := 68) C ddM_canGet_61 rfl (fun hc => ?_) (fun hc => ?_)
      · replace h := iteT h hc
        refine zz_iconst (v := 0) C ddM_canGet_68 (by decide) ?_
        refine zz_loc (L1 := []) [] rfl ?_
        exact zBM_canGet_69 hG C N hD hd E h
      · replace h := iteF h hc
        refine zz_loc (L1 := []) [] rfl ?_
        exact zBM_canGet_64 hG C N hD hd E h
theorem ddM_isRefused_0 : decode cM_isRefused 0 = .ok (.iload_n 1, 1) := by decide +kernel
theorem ddM_isRefused_1 : decode cM_isRefused 1 = .ok (.iconst (-1), 1) := by decide +kernel
theorem ddM_isRefused_2 : decode cM_isRefused 2 = .ok (.if_icmp .eq 13, 3) := by decide +kernel
theorem ddM_isRefused_5 : decode cM_isRefused 5 = .ok (.aload_n 0, 1) := by decide +kernel
theorem ddM_isRefused_6 : decode cM_isRefused 6 = .ok (.getfield 34, 3) := by decide +kernel
theorem ddM_isRefused_9 : decode cM_isRefused 9 = .ok (.iload_n 1, 1) := by decide +kernel
theorem ddM_isRefused_10 : decode cM_isRefused 10 = .ok (.dup2, 1) := by decide +kernel
theorem ddM_isRefused_11 : decode cM_isRefused 11 = .ok (.iaload, 1) := by decide +kernel
theorem ddM_isRefused_12 : decode cM_isRefused 12 = .ok (.iconst 1, 1) := by decide +kernel
theorem ddM_isRefused_13 : decode cM_isRefused 13 = .ok (.iadd, 1) := by decide +kernel
theorem ddM_isRefused_14 : decode cM_isRefused 14 = .ok (.iastore, 1) := by decide +kernel
theorem ddM_isRefused_15 : decode cM_isRefused 15 = .ok (.iload_n 1, 1) := by decide +kernel
theorem ddM_isRefused_16 : decode cM_isRefused 16 = .ok (.iconst (-1), 1) := by decide +kernel
theorem ddM_isRefused_17 : decode cM_isRefused 17 = .ok (.if_icmp .eq 7, 3) := by decide +kernel
theorem ddM_isRefused_20 : decode cM_isRefused 20 = .ok (.iconst 1, 1) := by decide +kernel
theorem ddM_isRefused_21 : decode cM_isRefused 21 = .ok (.goto 4, 3) := by decide +kernel
theorem ddM_isRefused_24 : decode cM_isRefused 24 = .ok (.iconst 0, 1) := by decide +kernel
theorem ddM_isRefused_25 : decode cM_isRefused 25 = .ok (.ireturn, 1) := by decide +kernel
set_option maxHeartbeats 2000000 in
theorem zBM_isRefused_25 {G : GXM} {X : CxM} (hG : GokM G) (C : CoM G X cM_isRefused "HomeFreedModel") (N : mLM X = 2) {d : Nat} (hD : dpM X = d) (hd : 0 ≤ d)  {q : Int32 × Mem} (E : EnM G X (some .boolean) (some (.int q.1)) q.2 0 0) {w0 : Int32} {M : Mem} (h : BM_isRefused_25 w0 M = some q) : ZM G X 25 [] [.int w0] M 0 0 := by
  unfold BM_isRefused_25 at h
  obtain ⟨h1, h⟩ := gdN h
  obtain rfl := Option.some.inj h
  exact zz_zret C (of_decide_eq_true h1) E ddM_isRefused_25
set_option maxHeartbeats 2000000 in
theorem zBM_isRefused_15 {G : GXM} {X : CxM} (hG : GokM G) (C : CoM G X cM_isRefused "HomeFreedModel") (N : mLM X = 2) {d : Nat} (hD : dpM X = d) (hd : 0 ≤ d)  {q : Int32 × Mem} (E : EnM G X (some .boolean) (some (.int q.1)) q.2 0 0) {v1 : Int32} {M : Mem} (h : BM_isRefused_15 v1 M = some q) : ZM G X 15 [(1, .int v1)] [] M 0 0 := by
  unfold BM_isRefused_15 at h
  refine zz_iload_n C 0 ddM_isRefused_15 rfl rfl ?_
  refine zz_iconst (v := (-1)) C ddM_isRefused_16 (by decide) ?_
  refine zz_icmp_eq (tgt := 24) C ddM_isRefused_17 rfl (fun hc => ?_) (fun hc => ?_)
  · replace h := iteT h hc
    refine zz_iconst (v := 0) C ddM_isRefused_24 (by decide) ?_
    refine zz_loc (L1 := []) [] rfl ?_
    exact zBM_isRefused_25 hG C N hD hd E h
  · replace h := iteF h hc
    refine zz_iconst (v := 1) C ddM_isRefused_20 (by decide) ?_
    refine zz_goto (tgt := 25) C ddM_isRefused_21 rfl ?_
    refine zz_loc (L1 := []) [] rfl ?_
    exact zBM_isRefused_25 hG C N hD hd E h
set_option maxHeartbeats 2000000 in
theorem xM_isRefused {G : GXM} {l : Launch} (hG : GokM G) (d : Nat) (hd : 0 ≤ d) {v0 : Nat} {v1 : Int32} {M : Mem} {q : Int32 × Mem} (h : fM_isRefused v0 v1 M = some q) : ExM G l d 0 0 yM_isRefused cM_isRefused 2 (some .boolean) [.ref v0, .int v1] M (some (.int q.1)) q.2 := by
  refine ex_of hG (by decide +kernel) (Nat.le_of_ble_eq_true rfl) ?_
  intro X hl C E N hD hn
  show ZM G X 0 [(0, .ref v0), (1, .int v1)] [] M 0 0
  unfold fM_isRefused at h
  refine zz_iload_n C 1 ddM_isRefused_0 rfl rfl ?_
  refine zz_iconst (v := (-1)) C ddM_isRefused_1 (by decide) ?_
  refine zz_icmp_eq (tgt := 15) C ddM_isRefused_2 rfl (fun hc => ?_) (fun hc => ?_)
  · replace h := iteT h hc
    refine zz_loc (L1 := [(1, .int v1)]) [1] rfl ?_
    exact zBM_isRefused_15 hG C N hD hd E h
  · replace h := iteF h hc
    refine zz_aload_n C 0 ddM_isRefused_5 rfl rfl ?_
    obtain ⟨h1, h⟩ := gdN h
    obtain ⟨h2, h⟩ := gdN h
    refine zz_getr C ddM_isRefused_6 fl_M_34 rfl h1 (of_decide_eq_true h2) ?_
    refine zz_iload_n C 1 ddM_isRefused_9 rfl rfl ?_
    refine zz_dup2 C ddM_isRefused_10 rfl rfl ?_
    obtain ⟨h3, h⟩ := gdN h
    refine zz_iaload C ddM_isRefused_11 h3 ?_
    refine zz_iconst (v := 1) C ddM_isRefused_12 (by decide) ?_
    refine zz_iadd C ddM_isRefused_13 ?_
    obtain ⟨h4, h⟩ := gdN h
    refine zz_iastore C ddM_isRefused_14 h4 ?_
    refine zz_loc (L1 := [(1, .int v1)]) [1] rfl ?_
    exact zBM_isRefused_15 hG C N hD hd E h
theorem ddM_keep_0 : decode cM_keep 0 = .ok (.aload_n 0, 1) := by decide +kernel
theorem ddM_keep_1 : decode cM_keep 1 = .ok (.getfield 147, 3) := by decide +kernel
theorem ddM_keep_4 : decode cM_keep 4 = .ok (.bipush 40, 2) := by decide +kernel
theorem ddM_keep_6 : decode cM_keep 6 = .ok (.if_icmp .ne 45, 3) := by decide +kernel
theorem ddM_keep_9 : decode cM_keep 9 = .ok (.sipush 3893, 3) := by decide +kernel
theorem ddM_keep_12 : decode cM_keep 12 = .ok (.istore_n 1, 1) := by decide +kernel
theorem ddM_keep_13 : decode cM_keep 13 = .ok (.iload_n 1, 1) := by decide +kernel
theorem ddM_keep_14 : decode cM_keep 14 = .ok (.ldc 53, 2) := by decide +kernel
theorem ddM_keep_16 : decode cM_keep 16 = .ok (.if_icmp .ge 25, 3) := by decide +kernel
theorem ddM_keep_19 : decode cM_keep 19 = .ok (.aload_n 0, 1) := by decide +kernel
theorem ddM_keep_20 : decode cM_keep 20 = .ok (.getfield 54, 3) := by decide +kernel
theorem ddM_keep_23 : decode cM_keep 23 = .ok (.iload_n 1, 1) := by decide +kernel
theorem ddM_keep_24 : decode cM_keep 24 = .ok (.sipush 3893, 3) := by decide +kernel
theorem ddM_keep_27 : decode cM_keep 27 = .ok (.isub, 1) := by decide +kernel
theorem ddM_keep_28 : decode cM_keep 28 = .ok (.aload_n 0, 1) := by decide +kernel
theorem ddM_keep_29 : decode cM_keep 29 = .ok (.getfield 54, 3) := by decide +kernel
theorem ddM_keep_32 : decode cM_keep 32 = .ok (.iload_n 1, 1) := by decide +kernel
theorem ddM_keep_33 : decode cM_keep 33 = .ok (.iaload, 1) := by decide +kernel
theorem ddM_keep_34 : decode cM_keep 34 = .ok (.iastore, 1) := by decide +kernel
theorem ddM_keep_35 : decode cM_keep 35 = .ok (.iinc 1 1, 3) := by decide +kernel
theorem ddM_keep_38 : decode cM_keep 38 = .ok (.goto (-25), 3) := by decide +kernel
theorem ddM_keep_41 : decode cM_keep 41 = .ok (.aload_n 0, 1) := by decide +kernel
theorem ddM_keep_42 : decode cM_keep 42 = .ok (.dup, 1) := by decide +kernel
theorem ddM_keep_43 : decode cM_keep 43 = .ok (.getfield 147, 3) := by decide +kernel
theorem ddM_keep_46 : decode cM_keep 46 = .ok (.iconst 1, 1) := by decide +kernel
theorem ddM_keep_47 : decode cM_keep 47 = .ok (.isub, 1) := by decide +kernel
theorem ddM_keep_48 : decode cM_keep 48 = .ok (.putfield 147, 3) := by decide +kernel
theorem ddM_keep_51 : decode cM_keep 51 = .ok (.iconst 0, 1) := by decide +kernel
theorem ddM_keep_52 : decode cM_keep 52 = .ok (.istore_n 1, 1) := by decide +kernel
theorem ddM_keep_53 : decode cM_keep 53 = .ok (.iload_n 1, 1) := by decide +kernel
theorem ddM_keep_54 : decode cM_keep 54 = .ok (.sipush 3893, 3) := by decide +kernel
theorem ddM_keep_57 : decode cM_keep 57 = .ok (.if_icmp .ge 30, 3) := by decide +kernel
theorem ddM_keep_60 : decode cM_keep 60 = .ok (.aload_n 0, 1) := by decide +kernel
theorem ddM_keep_61 : decode cM_keep 61 = .ok (.getfield 54, 3) := by decide +kernel
theorem ddM_keep_64 : decode cM_keep 64 = .ok (.sipush 3893, 3) := by decide +kernel
theorem ddM_keep_67 : decode cM_keep 67 = .ok (.aload_n 0, 1) := by decide +kernel
theorem ddM_keep_68 : decode cM_keep 68 = .ok (.getfield 147, 3) := by decide +kernel
theorem ddM_keep_71 : decode cM_keep 71 = .ok (.imul, 1) := by decide +kernel
theorem ddM_keep_72 : decode cM_keep 72 = .ok (.iload_n 1, 1) := by decide +kernel
theorem ddM_keep_73 : decode cM_keep 73 = .ok (.iadd, 1) := by decide +kernel
theorem ddM_keep_74 : decode cM_keep 74 = .ok (.aload_n 0, 1) := by decide +kernel
theorem ddM_keep_75 : decode cM_keep 75 = .ok (.getfield 31, 3) := by decide +kernel
theorem ddM_keep_78 : decode cM_keep 78 = .ok (.iload_n 1, 1) := by decide +kernel
theorem ddM_keep_79 : decode cM_keep 79 = .ok (.iaload, 1) := by decide +kernel
theorem ddM_keep_80 : decode cM_keep 80 = .ok (.iastore, 1) := by decide +kernel
theorem ddM_keep_81 : decode cM_keep 81 = .ok (.iinc 1 1, 3) := by decide +kernel
theorem ddM_keep_84 : decode cM_keep 84 = .ok (.goto (-31), 3) := by decide +kernel
theorem ddM_keep_87 : decode cM_keep 87 = .ok (.aload_n 0, 1) := by decide +kernel
theorem ddM_keep_88 : decode cM_keep 88 = .ok (.dup, 1) := by decide +kernel
theorem ddM_keep_89 : decode cM_keep 89 = .ok (.getfield 147, 3) := by decide +kernel
theorem ddM_keep_92 : decode cM_keep 92 = .ok (.iconst 1, 1) := by decide +kernel
theorem ddM_keep_93 : decode cM_keep 93 = .ok (.iadd, 1) := by decide +kernel
theorem ddM_keep_94 : decode cM_keep 94 = .ok (.putfield 147, 3) := by decide +kernel
theorem ddM_keep_97 : decode cM_keep 97 = .ok (.return_, 1) := by decide +kernel
set_option maxHeartbeats 2000000 in
theorem zBM_keep_53 {G : GXM} {X : CxM} (hG : GokM G) (C : CoM G X cM_keep "HomeFreedModel") (N : mLM X = 2) {d : Nat} (hD : dpM X = d) (hd : 0 ≤ d) {v0 : Nat} {K : Nat → Int32 → Mem → Option ((Mem))} {q : (Mem)} (hK : ∀ (v1 : Int32) (M : Mem), K v0 v1 M = some q → ZM G X 53 [(0, .ref v0), (1, .int v1)] [] M 0 0) (hr : ∀ r : Mem, q =  r → EnM G X none none r 0 0) {v1 : Int32} {M : Mem} (h : BM_keep_53 K v0 v1 M = some q) : ZM G X 53 [(0, .ref v0), (1, .int v1)] [] M 0 0 := by
  unfold BM_keep_53 at h
  refine zz_iload_n C 1 ddM_keep_53 rfl rfl ?_
  refine zz_sipush (v := 3893) C ddM_keep_54 (by decide) ?_
  refine zz_icmp_ge (tgt := 87) C ddM_keep_57 rfl (fun hc => ?_) (fun hc => ?_)
  · replace h := iteT h hc
    refine zz_aload_n C 0 ddM_keep_87 rfl rfl ?_
    refine zz_dup C ddM_keep_88 rfl ?_
    obtain ⟨h1, h⟩ := gdN h
    refine zz_geti C ddM_keep_89 fl_M_147 rfl h1 ?_
    refine zz_iconst (v := 1) C ddM_keep_92 (by decide) ?_
    refine zz_iadd C ddM_keep_93 ?_
    refine zz_puti C ddM_keep_94 fl_M_147 rfl rfl rfl h1 ?_
    exact zz_vret C (hr _ (Option.some.inj h).symm) ddM_keep_97
  · replace h := iteF h hc
    refine zz_aload_n C 0 ddM_keep_60 rfl rfl ?_
    obtain ⟨h2, h⟩ := gdN h
    obtain ⟨h3, h⟩ := gdN h
    refine zz_getr C ddM_keep_61 fl_M_54 rfl h2 (of_decide_eq_true h3) ?_
    refine zz_sipush (v := 3893) C ddM_keep_64 (by decide) ?_
    refine zz_aload_n C 0 ddM_keep_67 rfl rfl ?_
    refine zz_geti C ddM_keep_68 fl_M_147 rfl h2 ?_
    refine zz_imul C ddM_keep_71 ?_
    refine zz_iload_n C 1 ddM_keep_72 rfl rfl ?_
    refine zz_iadd C ddM_keep_73 ?_
    refine zz_aload_n C 0 ddM_keep_74 rfl rfl ?_
    obtain ⟨h4, h⟩ := gdN h
    refine zz_getr C ddM_keep_75 fl_M_31 rfl h2 (of_decide_eq_true h4) ?_
    refine zz_iload_n C 1 ddM_keep_78 rfl rfl ?_
    obtain ⟨h5, h⟩ := gdN h
    refine zz_iaload C ddM_keep_79 h5 ?_
    obtain ⟨h6, h⟩ := gdN h
    refine zz_iastore C ddM_keep_80 h6 ?_
    refine zz_iinc (v := v1 + 1) (L1 := [(1, .int (v1 + 1)), (0, .ref v0)]) C 1 ddM_keep_81 rfl rfl N (by decide) rfl ?_
    refine zz_goto (tgt := 53) C ddM_keep_84 rfl ?_
    refine zz_loc (L1 := [(0, .ref v0), (1, .int (v1 + 1))]) [1, 0] rfl ?_
    exact hK _ _ h
set_option maxHeartbeats 2000000 in
theorem zLM_keep_53 {G : GXM} {X : CxM} (hG : GokM G) (C : CoM G X cM_keep "HomeFreedModel") (N : mLM X = 2) {d : Nat} (hD : dpM X = d) (hd : 0 ≤ d) {v0 : Nat} {q : (Mem)} : ∀ (f : Nat) (v1 : Int32) (M : Mem), LM_keep_53 f v0 v1 M = some q → (hr : ∀ r : Mem, q =  r → EnM G X none none r 0 0) → ZM G X 53 [(0, .ref v0), (1, .int v1)] [] M 0 0 := by
  intro f
  induction f with
  | zero => intro v1 M h; cases h
  | succ f ih =>
    intro v1 M h hr
    exact zBM_keep_53 hG C N hD hd (K := LM_keep_53 f) (q := q) (fun v1 M h => ih v1 M h hr) hr h
set_option maxHeartbeats 2000000 in
theorem zBM_keep_51 {G : GXM} {X : CxM} (hG : GokM G) (C : CoM G X cM_keep "HomeFreedModel") (N : mLM X = 2) {d : Nat} (hD : dpM X = d) (hd : 0 ≤ d)  {q : Mem} (E : EnM G X none none q 0 0) {v0 : Nat} {M : Mem} (h : BM_keep_51 v0 M = some q) : ZM G X 51 [(0, .ref v0)] [] M 0 0 := by
  unfold BM_keep_51 at h
  refine zz_iconst (v := 0) C ddM_keep_51 (by decide) ?_
  refine zz_istore_n (L1 := [(1, .int 0), (0, .ref v0)]) C ddM_keep_52 rfl N (by decide) rfl ?_
  refine zz_loc (L1 := [(0, .ref v0), (1, .int 0)]) [1, 0] rfl ?_
  obtain ⟨q1, hq1, h⟩ := bindN h
  refine zLM_keep_53 hG C N hD hd 1000000 _ _ hq1 ?_
  · intro r2 eq1; replace eq1 := eq1.symm; subst eq1
    obtain rfl := Option.some.inj h
    exact E
set_option maxHeartbeats 2000000 in
theorem zBM_keep_13 {G : GXM} {X : CxM} (hG : GokM G) (C : CoM G X cM_keep "HomeFreedModel") (N : mLM X = 2) {d : Nat} (hD : dpM X = d) (hd : 0 ≤ d) {v0 : Nat} {K : Nat → Int32 → Mem → Option ((Mem))} {q : (Mem)} (hK : ∀ (v1 : Int32) (M : Mem), K v0 v1 M = some q → ZM G X 13 [(0, .ref v0), (1, .int v1)] [] M 0 0) (hx0 : ∀ y : Mem, q = y → ZM G X 41 [(0, .ref v0)] [] y 0 0) {v1 : Int32} {M : Mem} (h : BM_keep_13 K v0 v1 M = some q) : ZM G X 13 [(0, .ref v0), (1, .int v1)] [] M 0 0 := by
  unfold BM_keep_13 at h
  refine zz_iload_n C 1 ddM_keep_13 rfl rfl ?_
  refine zz_ldc C ddM_keep_14 wd_1168 rfl ?_
  refine zz_icmp_ge (tgt := 41) C ddM_keep_16 rfl (fun hc => ?_) (fun hc => ?_)
  · replace h := iteT h hc
    refine zz_loc (L1 := [(0, .ref v0)]) [0] rfl ?_
    exact hx0 _ (Option.some.inj h).symm
  · replace h := iteF h hc
    refine zz_aload_n C 0 ddM_keep_19 rfl rfl ?_
    obtain ⟨h1, h⟩ := gdN h
    obtain ⟨h2, h⟩ := gdN h
    refine zz_getr C ddM_keep_20 fl_M_54 rfl h1 (of_decide_eq_true h2) ?_
    refine zz_iload_n C 1 ddM_keep_23 rfl rfl ?_
    refine zz_sipush (v := 3893) C ddM_keep_24 (by decide) ?_
    refine zz_isub C ddM_keep_27 ?_
    refine zz_aload_n C 0 ddM_keep_28 rfl rfl ?_
    refine zz_getr C ddM_keep_29 fl_M_54 rfl h1 (of_decide_eq_true h2) ?_
    refine zz_iload_n C 1 ddM_keep_32 rfl rfl ?_
    obtain ⟨h3, h⟩ := gdN h
    refine zz_iaload C ddM_keep_33 h3 ?_
    obtain ⟨h4, h⟩ := gdN h
    refine zz_iastore C ddM_keep_34 h4 ?_
    refine zz_iinc (v := v1 + 1) (L1 := [(1, .int (v1 + 1)), (0, .ref v0)]) C 1 ddM_keep_35 rfl rfl N (by decide) rfl ?_
    refine zz_goto (tgt := 13) C ddM_keep_38 rfl ?_
    refine zz_loc (L1 := [(0, .ref v0), (1, .int (v1 + 1))]) [1, 0] rfl ?_
    exact hK _ _ h
set_option maxHeartbeats 2000000 in
theorem zLM_keep_13 {G : GXM} {X : CxM} (hG : GokM G) (C : CoM G X cM_keep "HomeFreedModel") (N : mLM X = 2) {d : Nat} (hD : dpM X = d) (hd : 0 ≤ d) {v0 : Nat} {q : (Mem)} : ∀ (f : Nat) (v1 : Int32) (M : Mem), LM_keep_13 f v0 v1 M = some q → (hx0 : ∀ y : Mem, q = y → ZM G X 41 [(0, .ref v0)] [] y 0 0) → ZM G X 13 [(0, .ref v0), (1, .int v1)] [] M 0 0 := by
  intro f
  induction f with
  | zero => intro v1 M h; cases h
  | succ f ih =>
    intro v1 M h hx0
    exact zBM_keep_13 hG C N hD hd (K := LM_keep_13 f) (q := q) (fun v1 M h => ih v1 M h hx0) hx0 h
set_option maxHeartbeats 2000000 in
theorem xM_keep {G : GXM} {l : Launch} (hG : GokM G) (d : Nat) (hd : 0 ≤ d) {v0 : Nat} {M : Mem} {q : Mem} (h : fM_keep v0 M = some q) : ExM G l d 0 0 yM_keep cM_keep 2 none [.ref v0] M none q := by
  refine ex_of hG (by decide +kernel) (Nat.le_of_ble_eq_true rfl) ?_
  intro X hl C E N hD hn
  show ZM G X 0 [(0, .ref v0)] [] M 0 0
  unfold fM_keep at h
  refine zz_aload_n C 0 ddM_keep_0 rfl rfl ?_
  obtain ⟨h1, h⟩ := gdN h
  refine zz_geti C ddM_keep_1 fl_M_147 rfl h1 ?_
  refine zz_bipush (v := 40) C ddM_keep_4 (by decide) ?_
  refine zz_icmp_ne (tgt := 51) C ddM_keep_6 rfl (fun hc => ?_) (fun hc => ?_)
  · replace h := iteF h hc
    exact zBM_keep_51 hG C N hD hd E h
  · replace h := iteT h hc
    refine zz_sipush (v := 3893) C ddM_keep_9 (by decide) ?_
    refine zz_istore_n (L1 := [(1, .int 3893), (0, .ref v0)]) C ddM_keep_12 rfl N (by decide) rfl ?_
    refine zz_loc (L1 := [(0, .ref v0), (1, .int 3893)]) [1, 0] rfl ?_
    obtain ⟨q2, hq2, h⟩ := bindN h
    refine zLM_keep_13 hG C N hD hd 1000000 _ _ hq2 ?_
    · intro y3 eq2; replace eq2 := eq2.symm; subst eq2
      refine zz_aload_n C 0 ddM_keep_41 rfl rfl ?_
      refine zz_dup C ddM_keep_42 rfl ?_
      obtain ⟨h4, h⟩ := gdN h
      refine zz_geti C ddM_keep_43 fl_M_147 rfl h4 ?_
      refine zz_iconst (v := 1) C ddM_keep_46 (by decide) ?_
      refine zz_isub C ddM_keep_47 ?_
      refine zz_puti C ddM_keep_48 fl_M_147 rfl rfl rfl h4 ?_
      exact zBM_keep_51 hG C N hD hd E h
theorem ddM_addFirst_0 : decode cM_addFirst 0 = .ok (.aload_n 0, 1) := by decide +kernel
theorem ddM_addFirst_1 : decode cM_addFirst 1 = .ok (.getfield 31, 3) := by decide +kernel
theorem ddM_addFirst_4 : decode cM_addFirst 4 = .ok (.iload_n 1, 1) := by decide +kernel
theorem ddM_addFirst_5 : decode cM_addFirst 5 = .ok (.iaload, 1) := by decide +kernel
theorem ddM_addFirst_6 : decode cM_addFirst 6 = .ok (.istore_n 3, 1) := by decide +kernel
theorem ddM_addFirst_7 : decode cM_addFirst 7 = .ok (.iload_n 3, 1) := by decide +kernel
theorem ddM_addFirst_8 : decode cM_addFirst 8 = .ok (.ifCond .le 27, 3) := by decide +kernel
theorem ddM_addFirst_11 : decode cM_addFirst 11 = .ok (.aload_n 0, 1) := by decide +kernel
theorem ddM_addFirst_12 : decode cM_addFirst 12 = .ok (.getfield 31, 3) := by decide +kernel
theorem ddM_addFirst_15 : decode cM_addFirst 15 = .ok (.iload_n 1, 1) := by decide +kernel
theorem ddM_addFirst_16 : decode cM_addFirst 16 = .ok (.iload_n 3, 1) := by decide +kernel
theorem ddM_addFirst_17 : decode cM_addFirst 17 = .ok (.iadd, 1) := by decide +kernel
theorem ddM_addFirst_18 : decode cM_addFirst 18 = .ok (.iconst 1, 1) := by decide +kernel
theorem ddM_addFirst_19 : decode cM_addFirst 19 = .ok (.iadd, 1) := by decide +kernel
theorem ddM_addFirst_20 : decode cM_addFirst 20 = .ok (.aload_n 0, 1) := by decide +kernel
theorem ddM_addFirst_21 : decode cM_addFirst 21 = .ok (.getfield 31, 3) := by decide +kernel
theorem ddM_addFirst_24 : decode cM_addFirst 24 = .ok (.iload_n 1, 1) := by decide +kernel
theorem ddM_addFirst_25 : decode cM_addFirst 25 = .ok (.iload_n 3, 1) := by decide +kernel
theorem ddM_addFirst_26 : decode cM_addFirst 26 = .ok (.iadd, 1) := by decide +kernel
theorem ddM_addFirst_27 : decode cM_addFirst 27 = .ok (.iaload, 1) := by decide +kernel
theorem ddM_addFirst_28 : decode cM_addFirst 28 = .ok (.iastore, 1) := by decide +kernel
theorem ddM_addFirst_29 : decode cM_addFirst 29 = .ok (.iinc 3 (-1), 3) := by decide +kernel
theorem ddM_addFirst_32 : decode cM_addFirst 32 = .ok (.goto (-25), 3) := by decide +kernel
theorem ddM_addFirst_35 : decode cM_addFirst 35 = .ok (.aload_n 0, 1) := by decide +kernel
theorem ddM_addFirst_36 : decode cM_addFirst 36 = .ok (.getfield 31, 3) := by decide +kernel
theorem ddM_addFirst_39 : decode cM_addFirst 39 = .ok (.iload_n 1, 1) := by decide +kernel
theorem ddM_addFirst_40 : decode cM_addFirst 40 = .ok (.dup2, 1) := by decide +kernel
theorem ddM_addFirst_41 : decode cM_addFirst 41 = .ok (.iaload, 1) := by decide +kernel
theorem ddM_addFirst_42 : decode cM_addFirst 42 = .ok (.iconst 1, 1) := by decide +kernel
theorem ddM_addFirst_43 : decode cM_addFirst 43 = .ok (.iadd, 1) := by decide +kernel
theorem ddM_addFirst_44 : decode cM_addFirst 44 = .ok (.iastore, 1) := by decide +kernel
theorem ddM_addFirst_45 : decode cM_addFirst 45 = .ok (.aload_n 0, 1) := by decide +kernel
theorem ddM_addFirst_46 : decode cM_addFirst 46 = .ok (.getfield 31, 3) := by decide +kernel
theorem ddM_addFirst_49 : decode cM_addFirst 49 = .ok (.iload_n 1, 1) := by decide +kernel
theorem ddM_addFirst_50 : decode cM_addFirst 50 = .ok (.iconst 1, 1) := by decide +kernel
theorem ddM_addFirst_51 : decode cM_addFirst 51 = .ok (.iadd, 1) := by decide +kernel
theorem ddM_addFirst_52 : decode cM_addFirst 52 = .ok (.iload_n 2, 1) := by decide +kernel
theorem ddM_addFirst_53 : decode cM_addFirst 53 = .ok (.iastore, 1) := by decide +kernel
theorem ddM_addFirst_54 : decode cM_addFirst 54 = .ok (.return_, 1) := by decide +kernel
set_option maxHeartbeats 2000000 in
theorem zBM_addFirst_7 {G : GXM} {X : CxM} (hG : GokM G) (C : CoM G X cM_addFirst "HomeFreedModel") (N : mLM X = 4) {d : Nat} (hD : dpM X = d) (hd : 0 ≤ d) {v0 : Nat} {v1 : Int32} {v2 : Int32} {K : Nat → Int32 → Int32 → Int32 → Mem → Option ((Mem))} {q : (Mem)} (hK : ∀ (v3 : Int32) (M : Mem), K v0 v1 v2 v3 M = some q → ZM G X 7 [(0, .ref v0), (1, .int v1), (2, .int v2), (3, .int v3)] [] M 0 0) (hr : ∀ r : Mem, q =  r → EnM G X none none r 0 0) {v3 : Int32} {M : Mem} (h : BM_addFirst_7 K v0 v1 v2 v3 M = some q) : ZM G X 7 [(0, .ref v0), (1, .int v1), (2, .int v2), (3, .int v3)] [] M 0 0 := by
  unfold BM_addFirst_7 at h
  refine zz_iload_n C 3 ddM_addFirst_7 rfl rfl ?_
  refine zz_if_le (tgt := 35) C ddM_addFirst_8 rfl (fun hc => ?_) (fun hc => ?_)
  · replace h := iteT h hc
    refine zz_aload_n C 0 ddM_addFirst_35 rfl rfl ?_
    obtain ⟨h1, h⟩ := gdN h
    obtain ⟨h2, h⟩ := gdN h
    refine zz_getr C ddM_addFirst_36 fl_M_31 rfl h1 (of_decide_eq_true h2) ?_
    refine zz_iload_n C 1 ddM_addFirst_39 rfl rfl ?_
    refine zz_dup2 C ddM_addFirst_40 rfl rfl ?_
    obtain ⟨h3, h⟩ := gdN h
    refine zz_iaload C ddM_addFirst_41 h3 ?_
    refine zz_iconst (v := 1) C ddM_addFirst_42 (by decide) ?_
    refine zz_iadd C ddM_addFirst_43 ?_
    obtain ⟨h4, h⟩ := gdN h
    refine zz_iastore C ddM_addFirst_44 h4 ?_
    refine zz_aload_n C 0 ddM_addFirst_45 rfl rfl ?_
    refine zz_getr C ddM_addFirst_46 fl_M_31 rfl h1 (of_decide_eq_true h2) ?_
    refine zz_iload_n C 1 ddM_addFirst_49 rfl rfl ?_
    refine zz_iconst (v := 1) C ddM_addFirst_50 (by decide) ?_
    refine zz_iadd C ddM_addFirst_51 ?_
    refine zz_iload_n C 2 ddM_addFirst_52 rfl rfl ?_
    obtain ⟨h5, h⟩ := gdN h
    refine zz_iastore C ddM_addFirst_53 h5 ?_
    exact zz_vret C (hr _ (Option.some.inj h).symm) ddM_addFirst_54
  · replace h := iteF h hc
    refine zz_aload_n C 0 ddM_addFirst_11 rfl rfl ?_
    obtain ⟨h6, h⟩ := gdN h
    obtain ⟨h7, h⟩ := gdN h
    refine zz_getr C ddM_addFirst_12 fl_M_31 rfl h6 (of_decide_eq_true h7) ?_
    refine zz_iload_n C 1 ddM_addFirst_15 rfl rfl ?_
    refine zz_iload_n C 3 ddM_addFirst_16 rfl rfl ?_
    refine zz_iadd C ddM_addFirst_17 ?_
    refine zz_iconst (v := 1) C ddM_addFirst_18 (by decide) ?_
    refine zz_iadd C ddM_addFirst_19 ?_
    refine zz_aload_n C 0 ddM_addFirst_20 rfl rfl ?_
    refine zz_getr C ddM_addFirst_21 fl_M_31 rfl h6 (of_decide_eq_true h7) ?_
    refine zz_iload_n C 1 ddM_addFirst_24 rfl rfl ?_
    refine zz_iload_n C 3 ddM_addFirst_25 rfl rfl ?_
    refine zz_iadd C ddM_addFirst_26 ?_
    obtain ⟨h8, h⟩ := gdN h
    refine zz_iaload C ddM_addFirst_27 h8 ?_
    obtain ⟨h9, h⟩ := gdN h
    refine zz_iastore C ddM_addFirst_28 h9 ?_
    refine zz_iinc (v := v3 + (-1)) (L1 := [(3, .int (v3 + (-1))), (0, .ref v0), (1, .int v1), (2, .int v2)]) C 3 ddM_addFirst_29 rfl rfl N (by decide) rfl ?_
    refine zz_goto (tgt := 7) C ddM_addFirst_32 rfl ?_
    refine zz_loc (L1 := [(0, .ref v0), (1, .int v1), (2, .int v2), (3, .int (v3 + (-1)))]) [1, 2, 3, 0] rfl ?_
    exact hK _ _ h
set_option maxHeartbeats 2000000 in
theorem zLM_addFirst_7 {G : GXM} {X : CxM} (hG : GokM G) (C : CoM G X cM_addFirst "HomeFreedModel") (N : mLM X = 4) {d : Nat} (hD : dpM X = d) (hd : 0 ≤ d) {v0 : Nat} {v1 : Int32} {v2 : Int32} {q : (Mem)} : ∀ (f : Nat) (v3 : Int32) (M : Mem), LM_addFirst_7 f v0 v1 v2 v3 M = some q → (hr : ∀ r : Mem, q =  r → EnM G X none none r 0 0) → ZM G X 7 [(0, .ref v0), (1, .int v1), (2, .int v2), (3, .int v3)] [] M 0 0 := by
  intro f
  induction f with
  | zero => intro v3 M h; cases h
  | succ f ih =>
    intro v3 M h hr
    exact zBM_addFirst_7 hG C N hD hd (K := LM_addFirst_7 f) (q := q) (fun v3 M h => ih v3 M h hr) hr h
set_option maxHeartbeats 2000000 in
theorem xM_addFirst {G : GXM} {l : Launch} (hG : GokM G) (d : Nat) (hd : 0 ≤ d) {v0 : Nat} {v1 : Int32} {v2 : Int32} {M : Mem} {q : Mem} (h : fM_addFirst v0 v1 v2 M = some q) : ExM G l d 0 0 yM_addFirst cM_addFirst 4 none [.ref v0, .int v1, .int v2] M none q := by
  refine ex_of hG (by decide +kernel) (Nat.le_of_ble_eq_true rfl) ?_
  intro X hl C E N hD hn
  show ZM G X 0 [(0, .ref v0), (1, .int v1), (2, .int v2)] [] M 0 0
  unfold fM_addFirst at h
  refine zz_aload_n C 0 ddM_addFirst_0 rfl rfl ?_
  obtain ⟨h1, h⟩ := gdN h
  obtain ⟨h2, h⟩ := gdN h
  refine zz_getr C ddM_addFirst_1 fl_M_31 rfl h1 (of_decide_eq_true h2) ?_
  refine zz_iload_n C 1 ddM_addFirst_4 rfl rfl ?_
  obtain ⟨h3, h⟩ := gdN h
  refine zz_iaload C ddM_addFirst_5 h3 ?_
  refine zz_istore_n (L1 := [(3, .int (giM M (grM M v0 15) (Int32.toNatClampNeg v1))), (0, .ref v0), (1, .int v1), (2, .int v2)]) C ddM_addFirst_6 rfl N (by decide) rfl ?_
  refine zz_loc (L1 := [(0, .ref v0), (1, .int v1), (2, .int v2), (3, .int (giM M (grM M v0 15) (Int32.toNatClampNeg v1)))]) [1, 2, 3, 0] rfl ?_
  obtain ⟨q4, hq4, h⟩ := bindN h
  refine zLM_addFirst_7 hG C N hD hd 1000000 _ _ hq4 ?_
  · intro r5 eq4; replace eq4 := eq4.symm; subst eq4
    obtain rfl := Option.some.inj h
    exact E
theorem ddM_moveAhead_0 : decode cM_moveAhead 0 = .ok (.aload_n 0, 1) := by decide +kernel
theorem ddM_moveAhead_1 : decode cM_moveAhead 1 = .ok (.getfield 31, 3) := by decide +kernel
theorem ddM_moveAhead_4 : decode cM_moveAhead 4 = .ok (.iload_n 1, 1) := by decide +kernel
theorem ddM_moveAhead_5 : decode cM_moveAhead 5 = .ok (.iaload, 1) := by decide +kernel
theorem ddM_moveAhead_6 : decode cM_moveAhead 6 = .ok (.istore_n 3, 1) := by decide +kernel
theorem ddM_moveAhead_7 : decode cM_moveAhead 7 = .ok (.iload_n 3, 1) := by decide +kernel
theorem ddM_moveAhead_8 : decode cM_moveAhead 8 = .ok (.ifCond .le 22, 3) := by decide +kernel
theorem ddM_moveAhead_11 : decode cM_moveAhead 11 = .ok (.aload_n 0, 1) := by decide +kernel
theorem ddM_moveAhead_12 : decode cM_moveAhead 12 = .ok (.iload_n 2, 1) := by decide +kernel
theorem ddM_moveAhead_13 : decode cM_moveAhead 13 = .ok (.aload_n 0, 1) := by decide +kernel
theorem ddM_moveAhead_14 : decode cM_moveAhead 14 = .ok (.getfield 31, 3) := by decide +kernel
theorem ddM_moveAhead_17 : decode cM_moveAhead 17 = .ok (.iload_n 1, 1) := by decide +kernel
theorem ddM_moveAhead_18 : decode cM_moveAhead 18 = .ok (.iload_n 3, 1) := by decide +kernel
theorem ddM_moveAhead_19 : decode cM_moveAhead 19 = .ok (.iadd, 1) := by decide +kernel
theorem ddM_moveAhead_20 : decode cM_moveAhead 20 = .ok (.iaload, 1) := by decide +kernel
theorem ddM_moveAhead_21 : decode cM_moveAhead 21 = .ok (.invokevirtual 166, 3) := by decide +kernel
theorem ddM_moveAhead_24 : decode cM_moveAhead 24 = .ok (.iinc 3 (-1), 3) := by decide +kernel
theorem ddM_moveAhead_27 : decode cM_moveAhead 27 = .ok (.goto (-20), 3) := by decide +kernel
theorem ddM_moveAhead_30 : decode cM_moveAhead 30 = .ok (.aload_n 0, 1) := by decide +kernel
theorem ddM_moveAhead_31 : decode cM_moveAhead 31 = .ok (.getfield 31, 3) := by decide +kernel
theorem ddM_moveAhead_34 : decode cM_moveAhead 34 = .ok (.iload_n 1, 1) := by decide +kernel
theorem ddM_moveAhead_35 : decode cM_moveAhead 35 = .ok (.iconst 0, 1) := by decide +kernel
theorem ddM_moveAhead_36 : decode cM_moveAhead 36 = .ok (.iastore, 1) := by decide +kernel
theorem ddM_moveAhead_37 : decode cM_moveAhead 37 = .ok (.return_, 1) := by decide +kernel
set_option maxHeartbeats 2000000 in
theorem zBM_moveAhead_7 {G : GXM} {X : CxM} (hG : GokM G) (C : CoM G X cM_moveAhead "HomeFreedModel") (N : mLM X = 4) {d : Nat} (hD : dpM X = d) (hd : 1 ≤ d) {v0 : Nat} {v1 : Int32} {v2 : Int32} {K : Nat → Int32 → Int32 → Int32 → Mem → Option ((Mem))} {q : (Mem)} (hK : ∀ (v3 : Int32) (M : Mem), K v0 v1 v2 v3 M = some q → ZM G X 7 [(0, .ref v0), (1, .int v1), (2, .int v2), (3, .int v3)] [] M 0 0) (hr : ∀ r : Mem, q =  r → EnM G X none none r 0 0) {v3 : Int32} {M : Mem} (h : BM_moveAhead_7 K v0 v1 v2 v3 M = some q) : ZM G X 7 [(0, .ref v0), (1, .int v1), (2, .int v2), (3, .int v3)] [] M 0 0 := by
  unfold BM_moveAhead_7 at h
  refine zz_iload_n C 3 ddM_moveAhead_7 rfl rfl ?_
  refine zz_if_le (tgt := 30) C ddM_moveAhead_8 rfl (fun hc => ?_) (fun hc => ?_)
  · replace h := iteT h hc
    refine zz_aload_n C 0 ddM_moveAhead_30 rfl rfl ?_
    obtain ⟨h1, h⟩ := gdN h
    obtain ⟨h2, h⟩ := gdN h
    refine zz_getr C ddM_moveAhead_31 fl_M_31 rfl h1 (of_decide_eq_true h2) ?_
    refine zz_iload_n C 1 ddM_moveAhead_34 rfl rfl ?_
    refine zz_iconst (v := 0) C ddM_moveAhead_35 (by decide) ?_
    obtain ⟨h3, h⟩ := gdN h
    refine zz_iastore C ddM_moveAhead_36 h3 ?_
    exact zz_vret C (hr _ (Option.some.inj h).symm) ddM_moveAhead_37
  · replace h := iteF h hc
    refine zz_aload_n C 0 ddM_moveAhead_11 rfl rfl ?_
    refine zz_iload_n C 2 ddM_moveAhead_12 rfl rfl ?_
    refine zz_aload_n C 0 ddM_moveAhead_13 rfl rfl ?_
    obtain ⟨h4, h⟩ := gdN h
    obtain ⟨h5, h⟩ := gdN h
    refine zz_getr C ddM_moveAhead_14 fl_M_31 rfl h4 (of_decide_eq_true h5) ?_
    refine zz_iload_n C 1 ddM_moveAhead_17 rfl rfl ?_
    refine zz_iload_n C 3 ddM_moveAhead_18 rfl rfl ?_
    refine zz_iadd C ddM_moveAhead_19 ?_
    obtain ⟨h6, h⟩ := gdN h
    refine zz_iaload C ddM_moveAhead_20 h6 ?_
    obtain ⟨q7, hq7, h⟩ := bindN h
    refine zz_callV0 (As := [.int v2, .int (giM M (grM M v0 15) (Int32.toNatClampNeg (v1 + v3)))]) C ddM_moveAhead_21 wd_1499 my_M_addFirst mv_M_addFirst ⟨_, rfl, rfl⟩ (xM_addFirst hG (d - 1) (by omega) hq7) (by omega) h4 rfl rfl (Nat.le_of_ble_eq_true rfl) ?_
    refine zz_iinc (v := v3 + (-1)) (L1 := [(3, .int (v3 + (-1))), (0, .ref v0), (1, .int v1), (2, .int v2)]) C 3 ddM_moveAhead_24 rfl rfl N (by decide) rfl ?_
    refine zz_goto (tgt := 7) C ddM_moveAhead_27 rfl ?_
    refine zz_loc (L1 := [(0, .ref v0), (1, .int v1), (2, .int v2), (3, .int (v3 + (-1)))]) [1, 2, 3, 0] rfl ?_
    exact hK _ _ h
set_option maxHeartbeats 2000000 in
theorem zLM_moveAhead_7 {G : GXM} {X : CxM} (hG : GokM G) (C : CoM G X cM_moveAhead "HomeFreedModel") (N : mLM X = 4) {d : Nat} (hD : dpM X = d) (hd : 1 ≤ d) {v0 : Nat} {v1 : Int32} {v2 : Int32} {q : (Mem)} : ∀ (f : Nat) (v3 : Int32) (M : Mem), LM_moveAhead_7 f v0 v1 v2 v3 M = some q → (hr : ∀ r : Mem, q =  r → EnM G X none none r 0 0) → ZM G X 7 [(0, .ref v0), (1, .int v1), (2, .int v2), (3, .int v3)] [] M 0 0 := by
  intro f
  induction f with
  | zero => intro v3 M h; cases h
  | succ f ih =>
    intro v3 M h hr
    exact zBM_moveAhead_7 hG C N hD hd (K := LM_moveAhead_7 f) (q := q) (fun v3 M h => ih v3 M h hr) hr h
set_option maxHeartbeats 2000000 in
theorem xM_moveAhead {G : GXM} {l : Launch} (hG : GokM G) (d : Nat) (hd : 1 ≤ d) {v0 : Nat} {v1 : Int32} {v2 : Int32} {M : Mem} {q : Mem} (h : fM_moveAhead v0 v1 v2 M = some q) : ExM G l d 0 0 yM_moveAhead cM_moveAhead 4 none [.ref v0, .int v1, .int v2] M none q := by
  refine ex_of hG (by decide +kernel) (Nat.le_of_ble_eq_true rfl) ?_
  intro X hl C E N hD hn
  show ZM G X 0 [(0, .ref v0), (1, .int v1), (2, .int v2)] [] M 0 0
  unfold fM_moveAhead at h
  refine zz_aload_n C 0 ddM_moveAhead_0 rfl rfl ?_
  obtain ⟨h1, h⟩ := gdN h
  obtain ⟨h2, h⟩ := gdN h
  refine zz_getr C ddM_moveAhead_1 fl_M_31 rfl h1 (of_decide_eq_true h2) ?_
  refine zz_iload_n C 1 ddM_moveAhead_4 rfl rfl ?_
  obtain ⟨h3, h⟩ := gdN h
  refine zz_iaload C ddM_moveAhead_5 h3 ?_
  refine zz_istore_n (L1 := [(3, .int (giM M (grM M v0 15) (Int32.toNatClampNeg v1))), (0, .ref v0), (1, .int v1), (2, .int v2)]) C ddM_moveAhead_6 rfl N (by decide) rfl ?_
  refine zz_loc (L1 := [(0, .ref v0), (1, .int v1), (2, .int v2), (3, .int (giM M (grM M v0 15) (Int32.toNatClampNeg v1)))]) [1, 2, 3, 0] rfl ?_
  obtain ⟨q4, hq4, h⟩ := bindN h
  refine zLM_moveAhead_7 hG C N hD hd 1000000 _ _ hq4 ?_
  · intro r5 eq4; replace eq4 := eq4.symm; subst eq4
    obtain rfl := Option.some.inj h
    exact E
theorem ddM_collect_0 : decode cM_collect 0 = .ok (.iload_n 1, 1) := by decide +kernel
theorem ddM_collect_1 : decode cM_collect 1 = .ok (.iconst 0, 1) := by decide +kernel
theorem ddM_collect_2 : decode cM_collect 2 = .ok (.invokestatic 173, 3) := by decide +kernel
theorem ddM_collect_5 : decode cM_collect 5 = .ok (.istore_n 2, 1) := by decide +kernel
theorem ddM_collect_6 : decode cM_collect 6 = .ok (.aload_n 0, 1) := by decide +kernel
theorem ddM_collect_7 : decode cM_collect 7 = .ok (.getfield 31, 3) := by decide +kernel
theorem ddM_collect_10 : decode cM_collect 10 = .ok (.iload_n 2, 1) := by decide +kernel
theorem ddM_collect_11 : decode cM_collect 11 = .ok (.iaload, 1) := by decide +kernel
theorem ddM_collect_12 : decode cM_collect 12 = .ok (.ifCond .le 5, 3) := by decide +kernel
theorem ddM_collect_15 : decode cM_collect 15 = .ok (.iconst 0, 1) := by decide +kernel
theorem ddM_collect_16 : decode cM_collect 16 = .ok (.ireturn, 1) := by decide +kernel
theorem ddM_collect_17 : decode cM_collect 17 = .ok (.aload_n 0, 1) := by decide +kernel
theorem ddM_collect_18 : decode cM_collect 18 = .ok (.getfield 31, 3) := by decide +kernel
theorem ddM_collect_21 : decode cM_collect 21 = .ok (.iload_n 1, 1) := by decide +kernel
theorem ddM_collect_22 : decode cM_collect 22 = .ok (.iconst 1, 1) := by decide +kernel
theorem ddM_collect_23 : decode cM_collect 23 = .ok (.invokestatic 173, 3) := by decide +kernel
theorem ddM_collect_26 : decode cM_collect 26 = .ok (.iaload, 1) := by decide +kernel
theorem ddM_collect_27 : decode cM_collect 27 = .ok (.ifCond .le 7, 3) := by decide +kernel
theorem ddM_collect_30 : decode cM_collect 30 = .ok (.iconst 1, 1) := by decide +kernel
theorem ddM_collect_31 : decode cM_collect 31 = .ok (.goto 4, 3) := by decide +kernel
theorem ddM_collect_34 : decode cM_collect 34 = .ok (.iconst 2, 1) := by decide +kernel
theorem ddM_collect_35 : decode cM_collect 35 = .ok (.istore_n 3, 1) := by decide +kernel
theorem ddM_collect_36 : decode cM_collect 36 = .ok (.aload_n 0, 1) := by decide +kernel
theorem ddM_collect_37 : decode cM_collect 37 = .ok (.iload_n 1, 1) := by decide +kernel
theorem ddM_collect_38 : decode cM_collect 38 = .ok (.iload_n 3, 1) := by decide +kernel
theorem ddM_collect_39 : decode cM_collect 39 = .ok (.invokestatic 173, 3) := by decide +kernel
theorem ddM_collect_42 : decode cM_collect 42 = .ok (.iload_n 2, 1) := by decide +kernel
theorem ddM_collect_43 : decode cM_collect 43 = .ok (.invokevirtual 211, 3) := by decide +kernel
theorem ddM_collect_46 : decode cM_collect 46 = .ok (.aload_n 0, 1) := by decide +kernel
theorem ddM_collect_47 : decode cM_collect 47 = .ok (.getfield 31, 3) := by decide +kernel
theorem ddM_collect_50 : decode cM_collect 50 = .ok (.iload_n 2, 1) := by decide +kernel
theorem ddM_collect_51 : decode cM_collect 51 = .ok (.iaload, 1) := by decide +kernel
theorem ddM_collect_52 : decode cM_collect 52 = .ok (.ifCond .ne 7, 3) := by decide +kernel
theorem ddM_collect_55 : decode cM_collect 55 = .ok (.iconst (-1), 1) := by decide +kernel
theorem ddM_collect_56 : decode cM_collect 56 = .ok (.goto 4, 3) := by decide +kernel
theorem ddM_collect_59 : decode cM_collect 59 = .ok (.iload_n 3, 1) := by decide +kernel
theorem ddM_collect_60 : decode cM_collect 60 = .ok (.ireturn, 1) := by decide +kernel
set_option maxHeartbeats 2000000 in
theorem zBM_collect_60 {G : GXM} {X : CxM} (hG : GokM G) (C : CoM G X cM_collect "HomeFreedModel") (N : mLM X = 4) {d : Nat} (hD : dpM X = d) (hd : 2 ≤ d)  {q : Int32 × Mem} (E : EnM G X (some .int) (some (.int q.1)) q.2 0 0) {w0 : Int32} {M : Mem} (h : BM_collect_60 w0 M = some q) : ZM G X 60 [] [.int w0] M 0 0 := by
  unfold BM_collect_60 at h
  obtain rfl := Option.some.inj h
  exact zz_iret C E ddM_collect_60
set_option maxHeartbeats 2000000 in
theorem zBM_collect_35 {G : GXM} {X : CxM} (hG : GokM G) (C : CoM G X cM_collect "HomeFreedModel") (N : mLM X = 4) {d : Nat} (hD : dpM X = d) (hd : 2 ≤ d)  {q : Int32 × Mem} (E : EnM G X (some .int) (some (.int q.1)) q.2 0 0) {v0 : Nat} {v1 : Int32} {v2 : Int32} {w0 : Int32} {M : Mem} (h : BM_collect_35 v0 v1 v2 w0 M = some q) : ZM G X 35 [(0, .ref v0), (1, .int v1), (2, .int v2)] [.int w0] M 0 0 := by
  unfold BM_collect_35 at h
  refine zz_istore_n (L1 := [(3, .int w0), (0, .ref v0), (1, .int v1), (2, .int v2)]) C ddM_collect_35 rfl N (by decide) rfl ?_
  refine zz_aload_n C 1 ddM_collect_36 rfl rfl ?_
  refine zz_iload_n C 2 ddM_collect_37 rfl rfl ?_
  refine zz_iload_n C 0 ddM_collect_38 rfl rfl ?_
  obtain ⟨q1, hq1, h⟩ := bindN h
  refine zz_callS0 (As := [.int v1, .int w0]) C ddM_collect_39 wd_1398 my_M_listAt mv_M_listAt (xM_listAt hG (d - 1) (by omega) hq1) (by omega) rfl rfl (Nat.le_of_ble_eq_true rfl) ?_
  refine zz_iload_n C 3 ddM_collect_42 rfl rfl ?_
  obtain ⟨h3, h⟩ := gdN h
  obtain ⟨q2, hq2, h⟩ := bindN h
  refine zz_callV0 (As := [.int q1.1, .int v2]) C ddM_collect_43 wd_1495 my_M_moveAhead mv_M_moveAhead ⟨_, rfl, rfl⟩ (xM_moveAhead hG (d - 1) (by omega) hq2) (by omega) h3 rfl rfl (Nat.le_of_ble_eq_true rfl) ?_
  refine zz_aload_n C 1 ddM_collect_46 rfl rfl ?_
  obtain ⟨h4, h⟩ := gdN h
  obtain ⟨h5, h⟩ := gdN h
  refine zz_getr C ddM_collect_47 fl_M_31 rfl h4 (of_decide_eq_true h5) ?_
  refine zz_iload_n C 3 ddM_collect_50 rfl rfl ?_
  obtain ⟨h6, h⟩ := gdN h
  refine zz_iaload C ddM_collect_51 h6 ?_
  refine zz_if_ne (tgt := 59) C ddM_collect_52 rfl (fun hc => ?_) (fun hc => ?_)
  · replace h := iteF h hc
    refine zz_iload_n C 0 ddM_collect_59 rfl rfl ?_
    refine zz_loc (L1 := []) [] rfl ?_
    exact zBM_collect_60 hG C N hD hd E h
  · replace h := iteT h hc
    refine zz_iconst (v := (-1)) C ddM_collect_55 (by decide) ?_
    refine zz_goto (tgt := 60) C ddM_collect_56 rfl ?_
    refine zz_loc (L1 := []) [] rfl ?_
    exact zBM_collect_60 hG C N hD hd E h
set_option maxHeartbeats 2000000 in
theorem xM_collect {G : GXM} {l : Launch} (hG : GokM G) (d : Nat) (hd : 2 ≤ d) {v0 : Nat} {v1 : Int32} {M : Mem} {q : Int32 × Mem} (h : fM_collect v0 v1 M = some q) : ExM G l d 0 0 yM_collect cM_collect 4 (some .int) [.ref v0, .int v1] M (some (.int q.1)) q.2 := by
  refine ex_of hG (by decide +kernel) (Nat.le_of_ble_eq_true rfl) ?_
  intro X hl C E N hD hn
  show ZM G X 0 [(0, .ref v0), (1, .int v1)] [] M 0 0
  unfold fM_collect at h
  refine zz_iload_n C 1 ddM_collect_0 rfl rfl ?_
  refine zz_iconst (v := 0) C ddM_collect_1 (by decide) ?_
  obtain ⟨q1, hq1, h⟩ := bindN h
  refine zz_callS0 (As := [.int v1, .int 0]) C ddM_collect_2 wd_1398 my_M_listAt mv_M_listAt (xM_listAt hG (d - 1) (by omega) hq1) (by omega) rfl rfl (Nat.le_of_ble_eq_true rfl) ?_
  refine zz_istore_n (L1 := [(2, .int q1.1), (0, .ref v0), (1, .int v1)]) C ddM_collect_5 rfl N (by decide) rfl ?_
  refine zz_aload_n C 1 ddM_collect_6 rfl rfl ?_
  obtain ⟨h2, h⟩ := gdN h
  obtain ⟨h3, h⟩ := gdN h
  refine zz_getr C ddM_collect_7 fl_M_31 rfl h2 (of_decide_eq_true h3) ?_
  refine zz_iload_n C 0 ddM_collect_10 rfl rfl ?_
  obtain ⟨h4, h⟩ := gdN h
  refine zz_iaload C ddM_collect_11 h4 ?_
  refine zz_if_le (tgt := 17) C ddM_collect_12 rfl (fun hc => ?_) (fun hc => ?_)
  · replace h := iteT h hc
    refine zz_aload_n C 1 ddM_collect_17 rfl rfl ?_
    refine zz_getr C ddM_collect_18 fl_M_31 rfl h2 (of_decide_eq_true h3) ?_
    refine zz_iload_n C 2 ddM_collect_21 rfl rfl ?_
    refine zz_iconst (v := 1) C ddM_collect_22 (by decide) ?_
    obtain ⟨q5, hq5, h⟩ := bindN h
    refine zz_callS0 (As := [.int v1, .int 1]) C ddM_collect_23 wd_1398 my_M_listAt mv_M_listAt (xM_listAt hG (d - 1) (by omega) hq5) (by omega) rfl rfl (Nat.le_of_ble_eq_true rfl) ?_
    obtain ⟨h6, h⟩ := gdN h
    refine zz_iaload C ddM_collect_26 h6 ?_
    refine zz_if_le (tgt := 34) C ddM_collect_27 rfl (fun hc => ?_) (fun hc => ?_)
    · replace h := iteT h hc
      refine zz_iconst (v := 2) C ddM_collect_34 (by decide) ?_
      refine zz_loc (L1 := [(0, .ref v0), (1, .int v1), (2, .int q1.1)]) [1, 2, 0] rfl ?_
      exact zBM_collect_35 hG C N hD hd E h
    · replace h := iteF h hc
      refine zz_iconst (v := 1) C ddM_collect_30 (by decide) ?_
      refine zz_goto (tgt := 35) C ddM_collect_31 rfl ?_
      refine zz_loc (L1 := [(0, .ref v0), (1, .int v1), (2, .int q1.1)]) [1, 2, 0] rfl ?_
      exact zBM_collect_35 hG C N hD hd E h
  · replace h := iteF h hc
    refine zz_iconst (v := 0) C ddM_collect_15 (by decide) ?_
    obtain rfl := Option.some.inj h
    exact zz_iret C E ddM_collect_16
theorem ddM_takeFirst_0 : decode cM_takeFirst 0 = .ok (.aload_n 0, 1) := by decide +kernel
theorem ddM_takeFirst_1 : decode cM_takeFirst 1 = .ok (.getfield 31, 3) := by decide +kernel
theorem ddM_takeFirst_4 : decode cM_takeFirst 4 = .ok (.iload_n 1, 1) := by decide +kernel
theorem ddM_takeFirst_5 : decode cM_takeFirst 5 = .ok (.iconst 1, 1) := by decide +kernel
theorem ddM_takeFirst_6 : decode cM_takeFirst 6 = .ok (.iadd, 1) := by decide +kernel
theorem ddM_takeFirst_7 : decode cM_takeFirst 7 = .ok (.iaload, 1) := by decide +kernel
theorem ddM_takeFirst_8 : decode cM_takeFirst 8 = .ok (.istore_n 2, 1) := by decide +kernel
theorem ddM_takeFirst_9 : decode cM_takeFirst 9 = .ok (.iconst 1, 1) := by decide +kernel
theorem ddM_takeFirst_10 : decode cM_takeFirst 10 = .ok (.istore_n 3, 1) := by decide +kernel
theorem ddM_takeFirst_11 : decode cM_takeFirst 11 = .ok (.iload_n 3, 1) := by decide +kernel
theorem ddM_takeFirst_12 : decode cM_takeFirst 12 = .ok (.aload_n 0, 1) := by decide +kernel
theorem ddM_takeFirst_13 : decode cM_takeFirst 13 = .ok (.getfield 31, 3) := by decide +kernel
theorem ddM_takeFirst_16 : decode cM_takeFirst 16 = .ok (.iload_n 1, 1) := by decide +kernel
theorem ddM_takeFirst_17 : decode cM_takeFirst 17 = .ok (.iaload, 1) := by decide +kernel
theorem ddM_takeFirst_18 : decode cM_takeFirst 18 = .ok (.if_icmp .ge 27, 3) := by decide +kernel
theorem ddM_takeFirst_21 : decode cM_takeFirst 21 = .ok (.aload_n 0, 1) := by decide +kernel
theorem ddM_takeFirst_22 : decode cM_takeFirst 22 = .ok (.getfield 31, 3) := by decide +kernel
theorem ddM_takeFirst_25 : decode cM_takeFirst 25 = .ok (.iload_n 1, 1) := by decide +kernel
theorem ddM_takeFirst_26 : decode cM_takeFirst 26 = .ok (.iload_n 3, 1) := by decide +kernel
theorem ddM_takeFirst_27 : decode cM_takeFirst 27 = .ok (.iadd, 1) := by decide +kernel
theorem ddM_takeFirst_28 : decode cM_takeFirst 28 = .ok (.aload_n 0, 1) := by decide +kernel
theorem ddM_takeFirst_29 : decode cM_takeFirst 29 = .ok (.getfield 31, 3) := by decide +kernel
theorem ddM_takeFirst_32 : decode cM_takeFirst 32 = .ok (.iload_n 1, 1) := by decide +kernel
theorem ddM_takeFirst_33 : decode cM_takeFirst 33 = .ok (.iload_n 3, 1) := by decide +kernel
theorem ddM_takeFirst_34 : decode cM_takeFirst 34 = .ok (.iadd, 1) := by decide +kernel
theorem ddM_takeFirst_35 : decode cM_takeFirst 35 = .ok (.iconst 1, 1) := by decide +kernel
theorem ddM_takeFirst_36 : decode cM_takeFirst 36 = .ok (.iadd, 1) := by decide +kernel
theorem ddM_takeFirst_37 : decode cM_takeFirst 37 = .ok (.iaload, 1) := by decide +kernel
theorem ddM_takeFirst_38 : decode cM_takeFirst 38 = .ok (.iastore, 1) := by decide +kernel
theorem ddM_takeFirst_39 : decode cM_takeFirst 39 = .ok (.iinc 3 1, 3) := by decide +kernel
theorem ddM_takeFirst_42 : decode cM_takeFirst 42 = .ok (.goto (-31), 3) := by decide +kernel
theorem ddM_takeFirst_45 : decode cM_takeFirst 45 = .ok (.aload_n 0, 1) := by decide +kernel
theorem ddM_takeFirst_46 : decode cM_takeFirst 46 = .ok (.getfield 31, 3) := by decide +kernel
theorem ddM_takeFirst_49 : decode cM_takeFirst 49 = .ok (.iload_n 1, 1) := by decide +kernel
theorem ddM_takeFirst_50 : decode cM_takeFirst 50 = .ok (.dup2, 1) := by decide +kernel
theorem ddM_takeFirst_51 : decode cM_takeFirst 51 = .ok (.iaload, 1) := by decide +kernel
theorem ddM_takeFirst_52 : decode cM_takeFirst 52 = .ok (.iconst 1, 1) := by decide +kernel
theorem ddM_takeFirst_53 : decode cM_takeFirst 53 = .ok (.isub, 1) := by decide +kernel
theorem ddM_takeFirst_54 : decode cM_takeFirst 54 = .ok (.iastore, 1) := by decide +kernel
theorem ddM_takeFirst_55 : decode cM_takeFirst 55 = .ok (.iload_n 2, 1) := by decide +kernel
theorem ddM_takeFirst_56 : decode cM_takeFirst 56 = .ok (.ireturn, 1) := by decide +kernel
set_option maxHeartbeats 2000000 in
theorem zBM_takeFirst_11 {G : GXM} {X : CxM} (hG : GokM G) (C : CoM G X cM_takeFirst "HomeFreedModel") (N : mLM X = 4) {d : Nat} (hD : dpM X = d) (hd : 0 ≤ d) {v0 : Nat} {v1 : Int32} {v2 : Int32} {K : Nat → Int32 → Int32 → Int32 → Mem → Option ((Int32 × Mem))} {q : (Int32 × Mem)} (hK : ∀ (v3 : Int32) (M : Mem), K v0 v1 v2 v3 M = some q → ZM G X 11 [(0, .ref v0), (1, .int v1), (2, .int v2), (3, .int v3)] [] M 0 0) (hr : ∀ r : Int32 × Mem, q =  r → EnM G X (some .int) (some (.int r.1)) r.2 0 0) {v3 : Int32} {M : Mem} (h : BM_takeFirst_11 K v0 v1 v2 v3 M = some q) : ZM G X 11 [(0, .ref v0), (1, .int v1), (2, .int v2), (3, .int v3)] [] M 0 0 := by
  unfold BM_takeFirst_11 at h
  refine zz_iload_n C 3 ddM_takeFirst_11 rfl rfl ?_
  refine zz_aload_n C 0 ddM_takeFirst_12 rfl rfl ?_
  obtain ⟨h1, h⟩ := gdN h
  obtain ⟨h2, h⟩ := gdN h
  refine zz_getr C ddM_takeFirst_13 fl_M_31 rfl h1 (of_decide_eq_true h2) ?_
  refine zz_iload_n C 1 ddM_takeFirst_16 rfl rfl ?_
  obtain ⟨h3, h⟩ := gdN h
  refine zz_iaload C ddM_takeFirst_17 h3 ?_
  refine zz_icmp_ge (tgt := 45) C ddM_takeFirst_18 rfl (fun hc => ?_) (fun hc => ?_)
  · replace h := iteT h hc
    refine zz_aload_n C 0 ddM_takeFirst_45 rfl rfl ?_
    refine zz_getr C ddM_takeFirst_46 fl_M_31 rfl h1 (of_decide_eq_true h2) ?_
    refine zz_iload_n C 1 ddM_takeFirst_49 rfl rfl ?_
    refine zz_dup2 C ddM_takeFirst_50 rfl rfl ?_
    refine zz_iaload C ddM_takeFirst_51 h3 ?_
    refine zz_iconst (v := 1) C ddM_takeFirst_52 (by decide) ?_
    refine zz_isub C ddM_takeFirst_53 ?_
    obtain ⟨h4, h⟩ := gdN h
    refine zz_iastore C ddM_takeFirst_54 h4 ?_
    refine zz_iload_n C 2 ddM_takeFirst_55 rfl rfl ?_
    exact zz_iret C (hr _ (Option.some.inj h).symm) ddM_takeFirst_56
  · replace h := iteF h hc
    refine zz_aload_n C 0 ddM_takeFirst_21 rfl rfl ?_
    refine zz_getr C ddM_takeFirst_22 fl_M_31 rfl h1 (of_decide_eq_true h2) ?_
    refine zz_iload_n C 1 ddM_takeFirst_25 rfl rfl ?_
    refine zz_iload_n C 3 ddM_takeFirst_26 rfl rfl ?_
    refine zz_iadd C ddM_takeFirst_27 ?_
    refine zz_aload_n C 0 ddM_takeFirst_28 rfl rfl ?_
    refine zz_getr C ddM_takeFirst_29 fl_M_31 rfl h1 (of_decide_eq_true h2) ?_
    refine zz_iload_n C 1 ddM_takeFirst_32 rfl rfl ?_
    refine zz_iload_n C 3 ddM_takeFirst_33 rfl rfl ?_
    refine zz_iadd C ddM_takeFirst_34 ?_
    refine zz_iconst (v := 1) C ddM_takeFirst_35 (by decide) ?_
    refine zz_iadd C ddM_takeFirst_36 ?_
    obtain ⟨h5, h⟩ := gdN h
    refine zz_iaload C ddM_takeFirst_37 h5 ?_
    obtain ⟨h6, h⟩ := gdN h
    refine zz_iastore C ddM_takeFirst_38 h6 ?_
    refine zz_iinc (v := v3 + 1) (L1 := [(3, .int (v3 + 1)), (0, .ref v0), (1, .int v1), (2, .int v2)]) C 3 ddM_takeFirst_39 rfl rfl N (by decide) rfl ?_
    refine zz_goto (tgt := 11) C ddM_takeFirst_42 rfl ?_
    refine zz_loc (L1 := [(0, .ref v0), (1, .int v1), (2, .int v2), (3, .int (v3 + 1))]) [1, 2, 3, 0] rfl ?_
    exact hK _ _ h
set_option maxHeartbeats 2000000 in
theorem zLM_takeFirst_11 {G : GXM} {X : CxM} (hG : GokM G) (C : CoM G X cM_takeFirst "HomeFreedModel") (N : mLM X = 4) {d : Nat} (hD : dpM X = d) (hd : 0 ≤ d) {v0 : Nat} {v1 : Int32} {v2 : Int32} {q : (Int32 × Mem)} : ∀ (f : Nat) (v3 : Int32) (M : Mem), LM_takeFirst_11 f v0 v1 v2 v3 M = some q → (hr : ∀ r : Int32 × Mem, q =  r → EnM G X (some .int) (some (.int r.1)) r.2 0 0) → ZM G X 11 [(0, .ref v0), (1, .int v1), (2, .int v2), (3, .int v3)] [] M 0 0 := by
  intro f
  induction f with
  | zero => intro v3 M h; cases h
  | succ f ih =>
    intro v3 M h hr
    exact zBM_takeFirst_11 hG C N hD hd (K := LM_takeFirst_11 f) (q := q) (fun v3 M h => ih v3 M h hr) hr h
set_option maxHeartbeats 2000000 in
theorem xM_takeFirst {G : GXM} {l : Launch} (hG : GokM G) (d : Nat) (hd : 0 ≤ d) {v0 : Nat} {v1 : Int32} {M : Mem} {q : Int32 × Mem} (h : fM_takeFirst v0 v1 M = some q) : ExM G l d 0 0 yM_takeFirst cM_takeFirst 4 (some .int) [.ref v0, .int v1] M (some (.int q.1)) q.2 := by
  refine ex_of hG (by decide +kernel) (Nat.le_of_ble_eq_true rfl) ?_
  intro X hl C E N hD hn
  show ZM G X 0 [(0, .ref v0), (1, .int v1)] [] M 0 0
  unfold fM_takeFirst at h
  refine zz_aload_n C 0 ddM_takeFirst_0 rfl rfl ?_
  obtain ⟨h1, h⟩ := gdN h
  obtain ⟨h2, h⟩ := gdN h
  refine zz_getr C ddM_takeFirst_1 fl_M_31 rfl h1 (of_decide_eq_true h2) ?_
  refine zz_iload_n C 1 ddM_takeFirst_4 rfl rfl ?_
  refine zz_iconst (v := 1) C ddM_takeFirst_5 (by decide) ?_
  refine zz_iadd C ddM_takeFirst_6 ?_
  obtain ⟨h3, h⟩ := gdN h
  refine zz_iaload C ddM_takeFirst_7 h3 ?_
  refine zz_istore_n (L1 := [(2, .int (giM M (grM M v0 15) (Int32.toNatClampNeg (v1 + 1)))), (0, .ref v0), (1, .int v1)]) C ddM_takeFirst_8 rfl N (by decide) rfl ?_
  refine zz_iconst (v := 1) C ddM_takeFirst_9 (by decide) ?_
  refine zz_istore_n (L1 := [(3, .int 1), (2, .int (giM M (grM M v0 15) (Int32.toNatClampNeg (v1 + 1)))), (0, .ref v0), (1, .int v1)]) C ddM_takeFirst_10 rfl N (by decide) rfl ?_
  refine zz_loc (L1 := [(0, .ref v0), (1, .int v1), (2, .int (giM M (grM M v0 15) (Int32.toNatClampNeg (v1 + 1)))), (3, .int 1)]) [2, 3, 1, 0] rfl ?_
  obtain ⟨q4, hq4, h⟩ := bindN h
  refine zLM_takeFirst_11 hG C N hD hd 1000000 _ _ hq4 ?_
  · intro r5 eq4; replace eq4 := eq4.symm; subst eq4
    obtain rfl := Option.some.inj h
    exact E
theorem ddM_set_0 : decode cM_set 0 = .ok (.aload_n 0, 1) := by decide +kernel
theorem ddM_set_1 : decode cM_set 1 = .ok (.getfield 31, 3) := by decide +kernel
theorem ddM_set_4 : decode cM_set 4 = .ok (.sipush 166, 3) := by decide +kernel
theorem ddM_set_7 : decode cM_set 7 = .ok (.iload_n 1, 1) := by decide +kernel
theorem ddM_set_8 : decode cM_set 8 = .ok (.imul, 1) := by decide +kernel
theorem ddM_set_9 : decode cM_set 9 = .ok (.iload_n 2, 1) := by decide +kernel
theorem ddM_set_10 : decode cM_set 10 = .ok (.iadd, 1) := by decide +kernel
theorem ddM_set_11 : decode cM_set 11 = .ok (.iload_n 3, 1) := by decide +kernel
theorem ddM_set_12 : decode cM_set 12 = .ok (.iastore, 1) := by decide +kernel
theorem ddM_set_13 : decode cM_set 13 = .ok (.return_, 1) := by decide +kernel
set_option maxHeartbeats 2000000 in
theorem xM_set {G : GXM} {l : Launch} (hG : GokM G) (d : Nat) (hd : 0 ≤ d) {v0 : Nat} {v1 : Int32} {v2 : Int32} {v3 : Int32} {M : Mem} {q : Mem} (h : fM_set v0 v1 v2 v3 M = some q) : ExM G l d 0 0 yM_set cM_set 4 none [.ref v0, .int v1, .int v2, .int v3] M none q := by
  refine ex_of hG (by decide +kernel) (Nat.le_of_ble_eq_true rfl) ?_
  intro X hl C E N hD hn
  show ZM G X 0 [(0, .ref v0), (1, .int v1), (2, .int v2), (3, .int v3)] [] M 0 0
  unfold fM_set at h
  refine zz_aload_n C 0 ddM_set_0 rfl rfl ?_
  obtain ⟨h1, h⟩ := gdN h
  obtain ⟨h2, h⟩ := gdN h
  refine zz_getr C ddM_set_1 fl_M_31 rfl h1 (of_decide_eq_true h2) ?_
  refine zz_sipush (v := 166) C ddM_set_4 (by decide) ?_
  refine zz_iload_n C 1 ddM_set_7 rfl rfl ?_
  refine zz_imul C ddM_set_8 ?_
  refine zz_iload_n C 2 ddM_set_9 rfl rfl ?_
  refine zz_iadd C ddM_set_10 ?_
  refine zz_iload_n C 3 ddM_set_11 rfl rfl ?_
  obtain ⟨h3, h⟩ := gdN h
  refine zz_iastore C ddM_set_12 h3 ?_
  obtain rfl := Option.some.inj h
  exact zz_vret C E ddM_set_13
theorem ddM_takeBlock_0 : decode cM_takeBlock 0 = .ok (.aload_n 0, 1) := by decide +kernel
theorem ddM_takeBlock_1 : decode cM_takeBlock 1 = .ok (.iload_n 1, 1) := by decide +kernel
theorem ddM_takeBlock_2 : decode cM_takeBlock 2 = .ok (.iconst 0, 1) := by decide +kernel
theorem ddM_takeBlock_3 : decode cM_takeBlock 3 = .ok (.invokestatic 173, 3) := by decide +kernel
theorem ddM_takeBlock_6 : decode cM_takeBlock 6 = .ok (.invokevirtual 214, 3) := by decide +kernel
theorem ddM_takeBlock_9 : decode cM_takeBlock 9 = .ok (.istore_n 3, 1) := by decide +kernel
theorem ddM_takeBlock_10 : decode cM_takeBlock 10 = .ok (.aload_n 0, 1) := by decide +kernel
theorem ddM_takeBlock_11 : decode cM_takeBlock 11 = .ok (.iload_n 1, 1) := by decide +kernel
theorem ddM_takeBlock_12 : decode cM_takeBlock 12 = .ok (.bipush 126, 2) := by decide +kernel
theorem ddM_takeBlock_14 : decode cM_takeBlock 14 = .ok (.iload_n 3, 1) := by decide +kernel
theorem ddM_takeBlock_15 : decode cM_takeBlock 15 = .ok (.iadd, 1) := by decide +kernel
theorem ddM_takeBlock_16 : decode cM_takeBlock 16 = .ok (.iconst 1, 1) := by decide +kernel
theorem ddM_takeBlock_17 : decode cM_takeBlock 17 = .ok (.invokevirtual 185, 3) := by decide +kernel
theorem ddM_takeBlock_20 : decode cM_takeBlock 20 = .ok (.aload_n 0, 1) := by decide +kernel
theorem ddM_takeBlock_21 : decode cM_takeBlock 21 = .ok (.iload_n 2, 1) := by decide +kernel
theorem ddM_takeBlock_22 : decode cM_takeBlock 22 = .ok (.putfield 217, 3) := by decide +kernel
theorem ddM_takeBlock_25 : decode cM_takeBlock 25 = .ok (.bipush 100, 2) := by decide +kernel
theorem ddM_takeBlock_27 : decode cM_takeBlock 27 = .ok (.iload_n 1, 1) := by decide +kernel
theorem ddM_takeBlock_28 : decode cM_takeBlock 28 = .ok (.imul, 1) := by decide +kernel
theorem ddM_takeBlock_29 : decode cM_takeBlock 29 = .ok (.iload_n 3, 1) := by decide +kernel
theorem ddM_takeBlock_30 : decode cM_takeBlock 30 = .ok (.iadd, 1) := by decide +kernel
theorem ddM_takeBlock_31 : decode cM_takeBlock 31 = .ok (.ireturn, 1) := by decide +kernel
set_option maxHeartbeats 2000000 in
theorem xM_takeBlock {G : GXM} {l : Launch} (hG : GokM G) (d : Nat) (hd : 1 ≤ d) {v0 : Nat} {v1 : Int32} {v2 : Int32} {M : Mem} {q : Int32 × Mem} (h : fM_takeBlock v0 v1 v2 M = some q) : ExM G l d 0 0 yM_takeBlock cM_takeBlock 4 (some .int) [.ref v0, .int v1, .int v2] M (some (.int q.1)) q.2 := by
  refine ex_of hG (by decide +kernel) (Nat.le_of_ble_eq_true rfl) ?_
  intro X hl C E N hD hn
  show ZM G X 0 [(0, .ref v0), (1, .int v1), (2, .int v2)] [] M 0 0
  unfold fM_takeBlock at h
  refine zz_aload_n C 0 ddM_takeBlock_0 rfl rfl ?_
  refine zz_iload_n C 1 ddM_takeBlock_1 rfl rfl ?_
  refine zz_iconst (v := 0) C ddM_takeBlock_2 (by decide) ?_
  obtain ⟨q1, hq1, h⟩ := bindN h
  refine zz_callS0 (As := [.int v1, .int 0]) C ddM_takeBlock_3 wd_1398 my_M_listAt mv_M_listAt (xM_listAt hG (d - 1) (by omega) hq1) (by omega) rfl rfl (Nat.le_of_ble_eq_true rfl) ?_
  obtain ⟨h3, h⟩ := gdN h
  obtain ⟨q2, hq2, h⟩ := bindN h
  refine zz_callV0 (As := [.int q1.1]) C ddM_takeBlock_6 wd_1507 my_M_takeFirst mv_M_takeFirst ⟨_, rfl, rfl⟩ (xM_takeFirst hG (d - 1) (by omega) hq2) (by omega) h3 rfl rfl (Nat.le_of_ble_eq_true rfl) ?_
  refine zz_istore_n (L1 := [(3, .int q2.1), (0, .ref v0), (1, .int v1), (2, .int v2)]) C ddM_takeBlock_9 rfl N (by decide) rfl ?_
  refine zz_aload_n C 1 ddM_takeBlock_10 rfl rfl ?_
  refine zz_iload_n C 2 ddM_takeBlock_11 rfl rfl ?_
  refine zz_bipush (v := 126) C ddM_takeBlock_12 (by decide) ?_
  refine zz_iload_n C 0 ddM_takeBlock_14 rfl rfl ?_
  refine zz_iadd C ddM_takeBlock_15 ?_
  refine zz_iconst (v := 1) C ddM_takeBlock_16 (by decide) ?_
  obtain ⟨h5, h⟩ := gdN h
  obtain ⟨q4, hq4, h⟩ := bindN h
  refine zz_callV0 (As := [.int v1, .int (126 + q2.1), .int 1]) C ddM_takeBlock_17 wd_1511 my_M_set mv_M_set ⟨_, rfl, rfl⟩ (xM_set hG (d - 1) (by omega) hq4) (by omega) h5 rfl rfl (Nat.le_of_ble_eq_true rfl) ?_
  refine zz_aload_n C 1 ddM_takeBlock_20 rfl rfl ?_
  refine zz_iload_n C 3 ddM_takeBlock_21 rfl rfl ?_
  obtain ⟨h6, h⟩ := gdN h
  refine zz_puti C ddM_takeBlock_22 fl_M_217 rfl rfl rfl h6 ?_
  refine zz_bipush (v := 100) C ddM_takeBlock_25 (by decide) ?_
  refine zz_iload_n C 2 ddM_takeBlock_27 rfl rfl ?_
  refine zz_imul C ddM_takeBlock_28 ?_
  refine zz_iload_n C 0 ddM_takeBlock_29 rfl rfl ?_
  refine zz_iadd C ddM_takeBlock_30 ?_
  obtain rfl := Option.some.inj h
  exact zz_iret C E ddM_takeBlock_31
theorem ddM_addLast_0 : decode cM_addLast 0 = .ok (.aload_n 0, 1) := by decide +kernel
theorem ddM_addLast_1 : decode cM_addLast 1 = .ok (.getfield 31, 3) := by decide +kernel
theorem ddM_addLast_4 : decode cM_addLast 4 = .ok (.iload_n 1, 1) := by decide +kernel
theorem ddM_addLast_5 : decode cM_addLast 5 = .ok (.dup2, 1) := by decide +kernel
theorem ddM_addLast_6 : decode cM_addLast 6 = .ok (.iaload, 1) := by decide +kernel
theorem ddM_addLast_7 : decode cM_addLast 7 = .ok (.iconst 1, 1) := by decide +kernel
theorem ddM_addLast_8 : decode cM_addLast 8 = .ok (.iadd, 1) := by decide +kernel
theorem ddM_addLast_9 : decode cM_addLast 9 = .ok (.iastore, 1) := by decide +kernel
theorem ddM_addLast_10 : decode cM_addLast 10 = .ok (.aload_n 0, 1) := by decide +kernel
theorem ddM_addLast_11 : decode cM_addLast 11 = .ok (.getfield 31, 3) := by decide +kernel
theorem ddM_addLast_14 : decode cM_addLast 14 = .ok (.iload_n 1, 1) := by decide +kernel
theorem ddM_addLast_15 : decode cM_addLast 15 = .ok (.aload_n 0, 1) := by decide +kernel
theorem ddM_addLast_16 : decode cM_addLast 16 = .ok (.getfield 31, 3) := by decide +kernel
theorem ddM_addLast_19 : decode cM_addLast 19 = .ok (.iload_n 1, 1) := by decide +kernel
theorem ddM_addLast_20 : decode cM_addLast 20 = .ok (.iaload, 1) := by decide +kernel
theorem ddM_addLast_21 : decode cM_addLast 21 = .ok (.iadd, 1) := by decide +kernel
theorem ddM_addLast_22 : decode cM_addLast 22 = .ok (.iload_n 2, 1) := by decide +kernel
theorem ddM_addLast_23 : decode cM_addLast 23 = .ok (.iastore, 1) := by decide +kernel
theorem ddM_addLast_24 : decode cM_addLast 24 = .ok (.return_, 1) := by decide +kernel
set_option maxHeartbeats 2000000 in
theorem xM_addLast {G : GXM} {l : Launch} (hG : GokM G) (d : Nat) (hd : 0 ≤ d) {v0 : Nat} {v1 : Int32} {v2 : Int32} {M : Mem} {q : Mem} (h : fM_addLast v0 v1 v2 M = some q) : ExM G l d 0 0 yM_addLast cM_addLast 3 none [.ref v0, .int v1, .int v2] M none q := by
  refine ex_of hG (by decide +kernel) (Nat.le_of_ble_eq_true rfl) ?_
  intro X hl C E N hD hn
  show ZM G X 0 [(0, .ref v0), (1, .int v1), (2, .int v2)] [] M 0 0
  unfold fM_addLast at h
  refine zz_aload_n C 0 ddM_addLast_0 rfl rfl ?_
  obtain ⟨h1, h⟩ := gdN h
  obtain ⟨h2, h⟩ := gdN h
  refine zz_getr C ddM_addLast_1 fl_M_31 rfl h1 (of_decide_eq_true h2) ?_
  refine zz_iload_n C 1 ddM_addLast_4 rfl rfl ?_
  refine zz_dup2 C ddM_addLast_5 rfl rfl ?_
  obtain ⟨h3, h⟩ := gdN h
  refine zz_iaload C ddM_addLast_6 h3 ?_
  refine zz_iconst (v := 1) C ddM_addLast_7 (by decide) ?_
  refine zz_iadd C ddM_addLast_8 ?_
  obtain ⟨h4, h⟩ := gdN h
  refine zz_iastore C ddM_addLast_9 h4 ?_
  refine zz_aload_n C 0 ddM_addLast_10 rfl rfl ?_
  refine zz_getr C ddM_addLast_11 fl_M_31 rfl h1 (of_decide_eq_true h2) ?_
  refine zz_iload_n C 1 ddM_addLast_14 rfl rfl ?_
  refine zz_aload_n C 0 ddM_addLast_15 rfl rfl ?_
  refine zz_getr C ddM_addLast_16 fl_M_31 rfl h1 (of_decide_eq_true h2) ?_
  refine zz_iload_n C 1 ddM_addLast_19 rfl rfl ?_
  refine zz_iaload C ddM_addLast_20 h3 ?_
  refine zz_iadd C ddM_addLast_21 ?_
  refine zz_iload_n C 2 ddM_addLast_22 rfl rfl ?_
  obtain ⟨h5, h⟩ := gdN h
  refine zz_iastore C ddM_addLast_23 h5 ?_
  obtain rfl := Option.some.inj h
  exact zz_vret C E ddM_addLast_24
theorem ddM_ownQueue_0 : decode cM_ownQueue 0 = .ok (.aload_n 0, 1) := by decide +kernel
theorem ddM_ownQueue_1 : decode cM_ownQueue 1 = .ok (.iload_n 1, 1) := by decide +kernel
theorem ddM_ownQueue_2 : decode cM_ownQueue 2 = .ok (.iconst 1, 1) := by decide +kernel
theorem ddM_ownQueue_3 : decode cM_ownQueue 3 = .ok (.invokevirtual 170, 3) := by decide +kernel
theorem ddM_ownQueue_6 : decode cM_ownQueue 6 = .ok (.aload_n 0, 1) := by decide +kernel
theorem ddM_ownQueue_7 : decode cM_ownQueue 7 = .ok (.iload_n 1, 1) := by decide +kernel
theorem ddM_ownQueue_8 : decode cM_ownQueue 8 = .ok (.iconst 2, 1) := by decide +kernel
theorem ddM_ownQueue_9 : decode cM_ownQueue 9 = .ok (.invokevirtual 170, 3) := by decide +kernel
theorem ddM_ownQueue_12 : decode cM_ownQueue 12 = .ok (.invokestatic 182, 3) := by decide +kernel
theorem ddM_ownQueue_15 : decode cM_ownQueue 15 = .ok (.ireturn, 1) := by decide +kernel
set_option maxHeartbeats 2000000 in
theorem xM_ownQueue {G : GXM} {l : Launch} (hG : GokM G) (d : Nat) (hd : 1 ≤ d) {v0 : Nat} {v1 : Int32} {M : Mem} {q : Int32 × Mem} (h : fM_ownQueue v0 v1 M = some q) : ExM G l d 0 0 yM_ownQueue cM_ownQueue 2 (some .int) [.ref v0, .int v1] M (some (.int q.1)) q.2 := by
  refine ex_of hG (by decide +kernel) (Nat.le_of_ble_eq_true rfl) ?_
  intro X hl C E N hD hn
  show ZM G X 0 [(0, .ref v0), (1, .int v1)] [] M 0 0
  unfold fM_ownQueue at h
  refine zz_aload_n C 0 ddM_ownQueue_0 rfl rfl ?_
  refine zz_iload_n C 1 ddM_ownQueue_1 rfl rfl ?_
  refine zz_iconst (v := 1) C ddM_ownQueue_2 (by decide) ?_
  obtain ⟨h2, h⟩ := gdN h
  obtain ⟨q1, hq1, h⟩ := bindN h
  refine zz_callV0 (As := [.int v1, .int 1]) C ddM_ownQueue_3 wd_1378 my_M_of mv_M_of ⟨_, rfl, rfl⟩ (xM_of hG (d - 1) (by omega) hq1) (by omega) h2 rfl rfl (Nat.le_of_ble_eq_true rfl) ?_
  refine zz_aload_n C 0 ddM_ownQueue_6 rfl rfl ?_
  refine zz_iload_n C 1 ddM_ownQueue_7 rfl rfl ?_
  refine zz_iconst (v := 2) C ddM_ownQueue_8 (by decide) ?_
  obtain ⟨h4, h⟩ := gdN h
  obtain ⟨q3, hq3, h⟩ := bindN h
  refine zz_callV0 (As := [.int v1, .int 2]) C ddM_ownQueue_9 wd_1378 my_M_of mv_M_of ⟨_, rfl, rfl⟩ (xM_of hG (d - 1) (by omega) hq3) (by omega) h4 rfl rfl (Nat.le_of_ble_eq_true rfl) ?_
  obtain ⟨q5, hq5, h⟩ := bindN h
  refine zz_callS0 (As := [.int q1.1, .int q3.1]) C ddM_ownQueue_12 wd_1432 my_M_queueAt mv_M_queueAt (xM_queueAt hG (d - 1) (by omega) hq5) (by omega) rfl rfl (Nat.le_of_ble_eq_true rfl) ?_
  obtain rfl := Option.some.inj h
  exact zz_iret C E ddM_ownQueue_15
theorem ddM_enqueue_0 : decode cM_enqueue 0 = .ok (.aload_n 0, 1) := by decide +kernel
theorem ddM_enqueue_1 : decode cM_enqueue 1 = .ok (.iload_n 1, 1) := by decide +kernel
theorem ddM_enqueue_2 : decode cM_enqueue 2 = .ok (.iconst 0, 1) := by decide +kernel
theorem ddM_enqueue_3 : decode cM_enqueue 3 = .ok (.iconst 1, 1) := by decide +kernel
theorem ddM_enqueue_4 : decode cM_enqueue 4 = .ok (.invokevirtual 185, 3) := by decide +kernel
theorem ddM_enqueue_7 : decode cM_enqueue 7 = .ok (.aload_n 0, 1) := by decide +kernel
theorem ddM_enqueue_8 : decode cM_enqueue 8 = .ok (.aload_n 0, 1) := by decide +kernel
theorem ddM_enqueue_9 : decode cM_enqueue 9 = .ok (.iload_n 1, 1) := by decide +kernel
theorem ddM_enqueue_10 : decode cM_enqueue 10 = .ok (.invokevirtual 189, 3) := by decide +kernel
theorem ddM_enqueue_13 : decode cM_enqueue 13 = .ok (.iload_n 1, 1) := by decide +kernel
theorem ddM_enqueue_14 : decode cM_enqueue 14 = .ok (.invokevirtual 192, 3) := by decide +kernel
theorem ddM_enqueue_17 : decode cM_enqueue 17 = .ok (.return_, 1) := by decide +kernel
set_option maxHeartbeats 2000000 in
theorem xM_enqueue {G : GXM} {l : Launch} (hG : GokM G) (d : Nat) (hd : 2 ≤ d) {v0 : Nat} {v1 : Int32} {M : Mem} {q : Mem} (h : fM_enqueue v0 v1 M = some q) : ExM G l d 0 0 yM_enqueue cM_enqueue 2 none [.ref v0, .int v1] M none q := by
  refine ex_of hG (by decide +kernel) (Nat.le_of_ble_eq_true rfl) ?_
  intro X hl C E N hD hn
  show ZM G X 0 [(0, .ref v0), (1, .int v1)] [] M 0 0
  unfold fM_enqueue at h
  refine zz_aload_n C 0 ddM_enqueue_0 rfl rfl ?_
  refine zz_iload_n C 1 ddM_enqueue_1 rfl rfl ?_
  refine zz_iconst (v := 0) C ddM_enqueue_2 (by decide) ?_
  refine zz_iconst (v := 1) C ddM_enqueue_3 (by decide) ?_
  obtain ⟨h2, h⟩ := gdN h
  obtain ⟨q1, hq1, h⟩ := bindN h
  refine zz_callV0 (As := [.int v1, .int 0, .int 1]) C ddM_enqueue_4 wd_1511 my_M_set mv_M_set ⟨_, rfl, rfl⟩ (xM_set hG (d - 1) (by omega) hq1) (by omega) h2 rfl rfl (Nat.le_of_ble_eq_true rfl) ?_
  refine zz_aload_n C 0 ddM_enqueue_7 rfl rfl ?_
  refine zz_aload_n C 0 ddM_enqueue_8 rfl rfl ?_
  refine zz_iload_n C 1 ddM_enqueue_9 rfl rfl ?_
  obtain ⟨h4, h⟩ := gdN h
  obtain ⟨q3, hq3, h⟩ := bindN h
  refine zz_callV0 (As := [.int v1]) C ddM_enqueue_10 wd_1523 my_M_ownQueue mv_M_ownQueue ⟨_, rfl, rfl⟩ (xM_ownQueue hG (d - 1) (by omega) hq3) (by omega) h4 rfl rfl (Nat.le_of_ble_eq_true rfl) ?_
  refine zz_iload_n C 1 ddM_enqueue_13 rfl rfl ?_
  obtain ⟨h6, h⟩ := gdN h
  obtain ⟨q5, hq5, h⟩ := bindN h
  refine zz_callV0 (As := [.int q3.1, .int v1]) C ddM_enqueue_14 wd_1515 my_M_addLast mv_M_addLast ⟨_, rfl, rfl⟩ (xM_addLast hG (d - 1) (by omega) hq5) (by omega) h6 rfl rfl (Nat.le_of_ble_eq_true rfl) ?_
  obtain rfl := Option.some.inj h
  exact zz_vret C E ddM_enqueue_17
theorem ddM_getOnce_0 : decode cM_getOnce 0 = .ok (.iload_n 1, 1) := by decide +kernel
theorem ddM_getOnce_1 : decode cM_getOnce 1 = .ok (.iload_n 2, 1) := by decide +kernel
theorem ddM_getOnce_2 : decode cM_getOnce 2 = .ok (.invokestatic 182, 3) := by decide +kernel
theorem ddM_getOnce_5 : decode cM_getOnce 5 = .ok (.istore_n 3, 1) := by decide +kernel
theorem ddM_getOnce_6 : decode cM_getOnce 6 = .ok (.iconst 1, 1) := by decide +kernel
theorem ddM_getOnce_7 : decode cM_getOnce 7 = .ok (.istore 4, 2) := by decide +kernel
theorem ddM_getOnce_9 : decode cM_getOnce 9 = .ok (.aload_n 0, 1) := by decide +kernel
theorem ddM_getOnce_10 : decode cM_getOnce 10 = .ok (.getfield 31, 3) := by decide +kernel
theorem ddM_getOnce_13 : decode cM_getOnce 13 = .ok (.iload_n 3, 1) := by decide +kernel
theorem ddM_getOnce_14 : decode cM_getOnce 14 = .ok (.iaload, 1) := by decide +kernel
theorem ddM_getOnce_15 : decode cM_getOnce 15 = .ok (.ifCond .le 65, 3) := by decide +kernel
theorem ddM_getOnce_18 : decode cM_getOnce 18 = .ok (.aload_n 0, 1) := by decide +kernel
theorem ddM_getOnce_19 : decode cM_getOnce 19 = .ok (.getfield 31, 3) := by decide +kernel
theorem ddM_getOnce_22 : decode cM_getOnce 22 = .ok (.iload_n 3, 1) := by decide +kernel
theorem ddM_getOnce_23 : decode cM_getOnce 23 = .ok (.iconst 1, 1) := by decide +kernel
theorem ddM_getOnce_24 : decode cM_getOnce 24 = .ok (.iadd, 1) := by decide +kernel
theorem ddM_getOnce_25 : decode cM_getOnce 25 = .ok (.iaload, 1) := by decide +kernel
theorem ddM_getOnce_26 : decode cM_getOnce 26 = .ok (.istore 5, 2) := by decide +kernel
theorem ddM_getOnce_28 : decode cM_getOnce 28 = .ok (.aload_n 0, 1) := by decide +kernel
theorem ddM_getOnce_29 : decode cM_getOnce 29 = .ok (.iload 5, 2) := by decide +kernel
theorem ddM_getOnce_31 : decode cM_getOnce 31 = .ok (.invokevirtual 220, 3) := by decide +kernel
theorem ddM_getOnce_34 : decode cM_getOnce 34 = .ok (.istore 6, 2) := by decide +kernel
theorem ddM_getOnce_36 : decode cM_getOnce 36 = .ok (.iload 6, 2) := by decide +kernel
theorem ddM_getOnce_38 : decode cM_getOnce 38 = .ok (.iconst (-1), 1) := by decide +kernel
theorem ddM_getOnce_39 : decode cM_getOnce 39 = .ok (.if_icmp .eq 21, 3) := by decide +kernel
theorem ddM_getOnce_42 : decode cM_getOnce 42 = .ok (.aload_n 0, 1) := by decide +kernel
theorem ddM_getOnce_43 : decode cM_getOnce 43 = .ok (.iload 5, 2) := by decide +kernel
theorem ddM_getOnce_45 : decode cM_getOnce 45 = .ok (.iload 4, 2) := by decide +kernel
theorem ddM_getOnce_47 : decode cM_getOnce 47 = .ok (.ifCond .eq 8, 3) := by decide +kernel
theorem ddM_getOnce_50 : decode cM_getOnce 50 = .ok (.iload 6, 2) := by decide +kernel
theorem ddM_getOnce_52 : decode cM_getOnce 52 = .ok (.goto 4, 3) := by decide +kernel
theorem ddM_getOnce_55 : decode cM_getOnce 55 = .ok (.iconst 3, 1) := by decide +kernel
theorem ddM_getOnce_56 : decode cM_getOnce 56 = .ok (.invokevirtual 223, 3) := by decide +kernel
theorem ddM_getOnce_59 : decode cM_getOnce 59 = .ok (.ireturn, 1) := by decide +kernel
theorem ddM_getOnce_60 : decode cM_getOnce 60 = .ok (.aload_n 0, 1) := by decide +kernel
theorem ddM_getOnce_61 : decode cM_getOnce 61 = .ok (.iload_n 3, 1) := by decide +kernel
theorem ddM_getOnce_62 : decode cM_getOnce 62 = .ok (.invokevirtual 214, 3) := by decide +kernel
theorem ddM_getOnce_65 : decode cM_getOnce 65 = .ok (.pop, 1) := by decide +kernel
theorem ddM_getOnce_66 : decode cM_getOnce 66 = .ok (.aload_n 0, 1) := by decide +kernel
theorem ddM_getOnce_67 : decode cM_getOnce 67 = .ok (.iload 5, 2) := by decide +kernel
theorem ddM_getOnce_69 : decode cM_getOnce 69 = .ok (.iconst 0, 1) := by decide +kernel
theorem ddM_getOnce_70 : decode cM_getOnce 70 = .ok (.iconst 2, 1) := by decide +kernel
theorem ddM_getOnce_71 : decode cM_getOnce 71 = .ok (.invokevirtual 185, 3) := by decide +kernel
theorem ddM_getOnce_74 : decode cM_getOnce 74 = .ok (.iconst 0, 1) := by decide +kernel
theorem ddM_getOnce_75 : decode cM_getOnce 75 = .ok (.istore 4, 2) := by decide +kernel
theorem ddM_getOnce_77 : decode cM_getOnce 77 = .ok (.goto (-68), 3) := by decide +kernel
theorem ddM_getOnce_80 : decode cM_getOnce 80 = .ok (.aload_n 0, 1) := by decide +kernel
theorem ddM_getOnce_81 : decode cM_getOnce 81 = .ok (.iload_n 2, 1) := by decide +kernel
theorem ddM_getOnce_82 : decode cM_getOnce 82 = .ok (.iconst 1, 1) := by decide +kernel
theorem ddM_getOnce_83 : decode cM_getOnce 83 = .ok (.invokevirtual 207, 3) := by decide +kernel
theorem ddM_getOnce_86 : decode cM_getOnce 86 = .ok (.istore 5, 2) := by decide +kernel
theorem ddM_getOnce_88 : decode cM_getOnce 88 = .ok (.iload 5, 2) := by decide +kernel
theorem ddM_getOnce_90 : decode cM_getOnce 90 = .ok (.iconst (-1), 1) := by decide +kernel
theorem ddM_getOnce_91 : decode cM_getOnce 91 = .ok (.if_icmp .eq 7, 3) := by decide +kernel
theorem ddM_getOnce_94 : decode cM_getOnce 94 = .ok (.iconst 1, 1) := by decide +kernel
theorem ddM_getOnce_95 : decode cM_getOnce 95 = .ok (.goto 4, 3) := by decide +kernel
theorem ddM_getOnce_98 : decode cM_getOnce 98 = .ok (.iconst 0, 1) := by decide +kernel
theorem ddM_getOnce_99 : decode cM_getOnce 99 = .ok (.istore 6, 2) := by decide +kernel
theorem ddM_getOnce_101 : decode cM_getOnce 101 = .ok (.iload 6, 2) := by decide +kernel
theorem ddM_getOnce_103 : decode cM_getOnce 103 = .ok (.ifCond .ne 70, 3) := by decide +kernel
theorem ddM_getOnce_106 : decode cM_getOnce 106 = .ok (.aload_n 0, 1) := by decide +kernel
theorem ddM_getOnce_107 : decode cM_getOnce 107 = .ok (.iload_n 2, 1) := by decide +kernel
theorem ddM_getOnce_108 : decode cM_getOnce 108 = .ok (.iconst 0, 1) := by decide +kernel
theorem ddM_getOnce_109 : decode cM_getOnce 109 = .ok (.invokevirtual 207, 3) := by decide +kernel
theorem ddM_getOnce_112 : decode cM_getOnce 112 = .ok (.istore 5, 2) := by decide +kernel
theorem ddM_getOnce_114 : decode cM_getOnce 114 = .ok (.aload_n 0, 1) := by decide +kernel
theorem ddM_getOnce_115 : decode cM_getOnce 115 = .ok (.iload 5, 2) := by decide +kernel
theorem ddM_getOnce_117 : decode cM_getOnce 117 = .ok (.iconst 2, 1) := by decide +kernel
theorem ddM_getOnce_118 : decode cM_getOnce 118 = .ok (.iload_n 2, 1) := by decide +kernel
theorem ddM_getOnce_119 : decode cM_getOnce 119 = .ok (.invokevirtual 185, 3) := by decide +kernel
theorem ddM_getOnce_122 : decode cM_getOnce 122 = .ok (.iconst 0, 1) := by decide +kernel
theorem ddM_getOnce_123 : decode cM_getOnce 123 = .ok (.istore 7, 2) := by decide +kernel
theorem ddM_getOnce_125 : decode cM_getOnce 125 = .ok (.iload 7, 2) := by decide +kernel
theorem ddM_getOnce_127 : decode cM_getOnce 127 = .ok (.aload_n 0, 1) := by decide +kernel
theorem ddM_getOnce_128 : decode cM_getOnce 128 = .ok (.getfield 19, 3) := by decide +kernel
theorem ddM_getOnce_131 : decode cM_getOnce 131 = .ok (.iconst 2, 1) := by decide +kernel
theorem ddM_getOnce_132 : decode cM_getOnce 132 = .ok (.iaload, 1) := by decide +kernel
theorem ddM_getOnce_133 : decode cM_getOnce 133 = .ok (.aload_n 0, 1) := by decide +kernel
theorem ddM_getOnce_134 : decode cM_getOnce 134 = .ok (.getfield 22, 3) := by decide +kernel
theorem ddM_getOnce_137 : decode cM_getOnce 137 = .ok (.iload_n 2, 1) := by decide +kernel
theorem ddM_getOnce_138 : decode cM_getOnce 138 = .ok (.iaload, 1) := by decide +kernel
theorem ddM_getOnce_139 : decode cM_getOnce 139 = .ok (.idiv, 1) := by decide +kernel
theorem ddM_getOnce_140 : decode cM_getOnce 140 = .ok (.if_icmp .ge 33, 3) := by decide +kernel
theorem ddM_getOnce_143 : decode cM_getOnce 143 = .ok (.aload_n 0, 1) := by decide +kernel
theorem ddM_getOnce_144 : decode cM_getOnce 144 = .ok (.iload 5, 2) := by decide +kernel
theorem ddM_getOnce_146 : decode cM_getOnce 146 = .ok (.iconst 0, 1) := by decide +kernel
theorem ddM_getOnce_147 : decode cM_getOnce 147 = .ok (.invokestatic 173, 3) := by decide +kernel
theorem ddM_getOnce_150 : decode cM_getOnce 150 = .ok (.iload 7, 2) := by decide +kernel
theorem ddM_getOnce_152 : decode cM_getOnce 152 = .ok (.invokevirtual 192, 3) := by decide +kernel
theorem ddM_getOnce_155 : decode cM_getOnce 155 = .ok (.aload_n 0, 1) := by decide +kernel
theorem ddM_getOnce_156 : decode cM_getOnce 156 = .ok (.iload 5, 2) := by decide +kernel
theorem ddM_getOnce_158 : decode cM_getOnce 158 = .ok (.bipush 126, 2) := by decide +kernel
theorem ddM_getOnce_160 : decode cM_getOnce 160 = .ok (.iload 7, 2) := by decide +kernel
theorem ddM_getOnce_162 : decode cM_getOnce 162 = .ok (.iadd, 1) := by decide +kernel
theorem ddM_getOnce_163 : decode cM_getOnce 163 = .ok (.iconst 0, 1) := by decide +kernel
theorem ddM_getOnce_164 : decode cM_getOnce 164 = .ok (.invokevirtual 185, 3) := by decide +kernel
theorem ddM_getOnce_167 : decode cM_getOnce 167 = .ok (.iinc 7 1, 3) := by decide +kernel
theorem ddM_getOnce_170 : decode cM_getOnce 170 = .ok (.goto (-45), 3) := by decide +kernel
theorem ddM_getOnce_173 : decode cM_getOnce 173 = .ok (.aload_n 0, 1) := by decide +kernel
theorem ddM_getOnce_174 : decode cM_getOnce 174 = .ok (.iload 5, 2) := by decide +kernel
theorem ddM_getOnce_176 : decode cM_getOnce 176 = .ok (.iconst 1, 1) := by decide +kernel
theorem ddM_getOnce_177 : decode cM_getOnce 177 = .ok (.iload_n 1, 1) := by decide +kernel
theorem ddM_getOnce_178 : decode cM_getOnce 178 = .ok (.invokevirtual 185, 3) := by decide +kernel
theorem ddM_getOnce_181 : decode cM_getOnce 181 = .ok (.aload_n 0, 1) := by decide +kernel
theorem ddM_getOnce_182 : decode cM_getOnce 182 = .ok (.iload 5, 2) := by decide +kernel
theorem ddM_getOnce_184 : decode cM_getOnce 184 = .ok (.invokevirtual 226, 3) := by decide +kernel
theorem ddM_getOnce_187 : decode cM_getOnce 187 = .ok (.aload_n 0, 1) := by decide +kernel
theorem ddM_getOnce_188 : decode cM_getOnce 188 = .ok (.iload 5, 2) := by decide +kernel
theorem ddM_getOnce_190 : decode cM_getOnce 190 = .ok (.invokevirtual 220, 3) := by decide +kernel
theorem ddM_getOnce_193 : decode cM_getOnce 193 = .ok (.pop, 1) := by decide +kernel
theorem ddM_getOnce_194 : decode cM_getOnce 194 = .ok (.aload_n 0, 1) := by decide +kernel
theorem ddM_getOnce_195 : decode cM_getOnce 195 = .ok (.iload 5, 2) := by decide +kernel
theorem ddM_getOnce_197 : decode cM_getOnce 197 = .ok (.iload 6, 2) := by decide +kernel
theorem ddM_getOnce_199 : decode cM_getOnce 199 = .ok (.ifCond .eq 7, 3) := by decide +kernel
theorem ddM_getOnce_202 : decode cM_getOnce 202 = .ok (.iconst 4, 1) := by decide +kernel
theorem ddM_getOnce_203 : decode cM_getOnce 203 = .ok (.goto 4, 3) := by decide +kernel
theorem ddM_getOnce_206 : decode cM_getOnce 206 = .ok (.iconst 5, 1) := by decide +kernel
theorem ddM_getOnce_207 : decode cM_getOnce 207 = .ok (.invokevirtual 223, 3) := by decide +kernel
theorem ddM_getOnce_210 : decode cM_getOnce 210 = .ok (.ireturn, 1) := by decide +kernel
set_option maxHeartbeats 2000000 in
theorem zBM_getOnce_207 {G : GXM} {X : CxM} (hG : GokM G) (C : CoM G X cM_getOnce "HomeFreedModel") (N : mLM X = 8) {d : Nat} (hD : dpM X = d) (hd : 3 ≤ d)  {q : Int32 × Mem} (E : EnM G X (some .int) (some (.int q.1)) q.2 0 0) {w0 : Nat} {w1 : Int32} {w2 : Int32} {M : Mem} (h : BM_getOnce_207 w0 w1 w2 M = some q) : ZM G X 207 [] [.int w2, .int w1, .ref w0] M 0 0 := by
  unfold BM_getOnce_207 at h
  obtain ⟨h2, h⟩ := gdN h
  obtain ⟨q1, hq1, h⟩ := bindN h
  refine zz_callV0 (As := [.int w1, .int w2]) C ddM_getOnce_207 wd_1503 my_M_takeBlock mv_M_takeBlock ⟨_, rfl, rfl⟩ (xM_takeBlock hG (d - 1) (by omega) hq1) (by omega) h2 rfl rfl (Nat.le_of_ble_eq_true rfl) ?_
  obtain rfl := Option.some.inj h
  exact zz_iret C E ddM_getOnce_210
set_option maxHeartbeats 2000000 in
theorem zBM_getOnce_173 {G : GXM} {X : CxM} (hG : GokM G) (C : CoM G X cM_getOnce "HomeFreedModel") (N : mLM X = 8) {d : Nat} (hD : dpM X = d) (hd : 3 ≤ d)  {q : Int32 × Mem} (E : EnM G X (some .int) (some (.int q.1)) q.2 0 0) {v0 : Nat} {v1 : Int32} {v5 : Int32} {v6 : Int32} {M : Mem} (h : BM_getOnce_173 v0 v1 v5 v6 M = some q) : ZM G X 173 [(0, .ref v0), (1, .int v1), (5, .int v5), (6, .int v6)] [] M 0 0 := by
  unfold BM_getOnce_173 at h
  refine zz_aload_n C 0 ddM_getOnce_173 rfl rfl ?_
  refine zz_iload C 2 ddM_getOnce_174 rfl ?_
  refine zz_iconst (v := 1) C ddM_getOnce_176 (by decide) ?_
  refine zz_iload_n C 1 ddM_getOnce_177 rfl rfl ?_
  obtain ⟨h2, h⟩ := gdN h
  obtain ⟨q1, hq1, h⟩ := bindN h
  refine zz_callV0 (As := [.int v5, .int 1, .int v1]) C ddM_getOnce_178 wd_1511 my_M_set mv_M_set ⟨_, rfl, rfl⟩ (xM_set hG (d - 1) (by omega) hq1) (by omega) h2 rfl rfl (Nat.le_of_ble_eq_true rfl) ?_
  refine zz_aload_n C 0 ddM_getOnce_181 rfl rfl ?_
  refine zz_iload C 2 ddM_getOnce_182 rfl ?_
  obtain ⟨h4, h⟩ := gdN h
  obtain ⟨q3, hq3, h⟩ := bindN h
  refine zz_callV0 (As := [.int v5]) C ddM_getOnce_184 wd_1519 my_M_enqueue mv_M_enqueue ⟨_, rfl, rfl⟩ (xM_enqueue hG (d - 1) (by omega) hq3) (by omega) h4 rfl rfl (Nat.le_of_ble_eq_true rfl) ?_
  refine zz_aload_n C 0 ddM_getOnce_187 rfl rfl ?_
  refine zz_iload C 2 ddM_getOnce_188 rfl ?_
  obtain ⟨h6, h⟩ := gdN h
  obtain ⟨q5, hq5, h⟩ := bindN h
  refine zz_callV0 (As := [.int v5]) C ddM_getOnce_190 wd_1491 my_M_collect mv_M_collect ⟨_, rfl, rfl⟩ (xM_collect hG (d - 1) (by omega) hq5) (by omega) h6 rfl rfl (Nat.le_of_ble_eq_true rfl) ?_
  refine zz_pop C ddM_getOnce_193 rfl ?_
  refine zz_aload_n C 0 ddM_getOnce_194 rfl rfl ?_
  refine zz_iload C 2 ddM_getOnce_195 rfl ?_
  refine zz_iload C 3 ddM_getOnce_197 rfl ?_
  refine zz_if_eq (tgt := 206) C ddM_getOnce_199 rfl (fun hc => ?_) (fun hc => ?_)
  · replace h := iteT h hc
    refine zz_iconst (v := 5) C ddM_getOnce_206 (by decide) ?_
    refine zz_loc (L1 := []) [] rfl ?_
    exact zBM_getOnce_207 hG C N hD hd E h
  · replace h := iteF h hc
    refine zz_iconst (v := 4) C ddM_getOnce_202 (by decide) ?_
    refine zz_goto (tgt := 207) C ddM_getOnce_203 rfl ?_
    refine zz_loc (L1 := []) [] rfl ?_
    exact zBM_getOnce_207 hG C N hD hd E h
set_option maxHeartbeats 2000000 in
theorem zBM_getOnce_125 {G : GXM} {X : CxM} (hG : GokM G) (C : CoM G X cM_getOnce "HomeFreedModel") (N : mLM X = 8) {d : Nat} (hD : dpM X = d) (hd : 3 ≤ d) {v0 : Nat} {v1 : Int32} {v2 : Int32} {v5 : Int32} {v6 : Int32} {K : Nat → Int32 → Int32 → Int32 → Int32 → Int32 → Mem → Option ((Mem))} {q : (Mem)} (hK : ∀ (v7 : Int32) (M : Mem), K v0 v1 v2 v5 v6 v7 M = some q → ZM G X 125 [(0, .ref v0), (1, .int v1), (2, .int v2), (5, .int v5), (6, .int v6), (7, .int v7)] [] M 0 0) (hx0 : ∀ y : Mem, q = y → ZM G X 173 [(0, .ref v0), (1, .int v1), (5, .int v5), (6, .int v6)] [] y 0 0) {v7 : Int32} {M : Mem} (h : BM_getOnce_125 K v0 v1 v2 v5 v6 v7 M = some q) : ZM G X 125 [(0, .ref v0), (1, .int v1), (2, .int v2), (5, .int v5), (6, .int v6), (7, .int v7)] [] M 0 0 := by
  unfold BM_getOnce_125 at h
  refine zz_iload C 5 ddM_getOnce_125 rfl ?_
  refine zz_aload_n C 0 ddM_getOnce_127 rfl rfl ?_
  obtain ⟨h1, h⟩ := gdN h
  obtain ⟨h2, h⟩ := gdN h
  refine zz_getr C ddM_getOnce_128 fl_M_19 rfl h1 (of_decide_eq_true h2) ?_
  refine zz_iconst (v := 2) C ddM_getOnce_131 (by decide) ?_
  obtain ⟨h3, h⟩ := gdN h
  refine zz_iaload C ddM_getOnce_132 h3 ?_
  refine zz_aload_n C 0 ddM_getOnce_133 rfl rfl ?_
  obtain ⟨h4, h⟩ := gdN h
  refine zz_getr C ddM_getOnce_134 fl_M_22 rfl h1 (of_decide_eq_true h4) ?_
  refine zz_iload_n C 2 ddM_getOnce_137 rfl rfl ?_
  obtain ⟨h5, h⟩ := gdN h
  refine zz_iaload C ddM_getOnce_138 h5 ?_
  obtain ⟨h6, h⟩ := gdN h
  refine zz_idiv C ddM_getOnce_139 (of_decide_eq_true h6) ?_
  refine zz_icmp_ge (tgt := 173) C ddM_getOnce_140 rfl (fun hc => ?_) (fun hc => ?_)
  · replace h := iteT h hc
    refine zz_loc (L1 := [(0, .ref v0), (1, .int v1), (5, .int v5), (6, .int v6)]) [0, 1, 3, 4] rfl ?_
    exact hx0 _ (Option.some.inj h).symm
  · replace h := iteF h hc
    refine zz_aload_n C 0 ddM_getOnce_143 rfl rfl ?_
    refine zz_iload C 3 ddM_getOnce_144 rfl ?_
    refine zz_iconst (v := 0) C ddM_getOnce_146 (by decide) ?_
    obtain ⟨q7, hq7, h⟩ := bindN h
    refine zz_callS0 (As := [.int v5, .int 0]) C ddM_getOnce_147 wd_1398 my_M_listAt mv_M_listAt (xM_listAt hG (d - 1) (by omega) hq7) (by omega) rfl rfl (Nat.le_of_ble_eq_true rfl) ?_
    refine zz_iload C 5 ddM_getOnce_150 rfl ?_
    obtain ⟨h9, h⟩ := gdN h
    obtain ⟨q8, hq8, h⟩ := bindN h
    refine zz_callV0 (As := [.int q7.1, .int v7]) C ddM_getOnce_152 wd_1515 my_M_addLast mv_M_addLast ⟨_, rfl, rfl⟩ (xM_addLast hG (d - 1) (by omega) hq8) (by omega) h9 rfl rfl (Nat.le_of_ble_eq_true rfl) ?_
    refine zz_aload_n C 0 ddM_getOnce_155 rfl rfl ?_
    refine zz_iload C 3 ddM_getOnce_156 rfl ?_
    refine zz_bipush (v := 126) C ddM_getOnce_158 (by decide) ?_
    refine zz_iload C 5 ddM_getOnce_160 rfl ?_
    refine zz_iadd C ddM_getOnce_162 ?_
    refine zz_iconst (v := 0) C ddM_getOnce_163 (by decide) ?_
    obtain ⟨h11, h⟩ := gdN h
    obtain ⟨q10, hq10, h⟩ := bindN h
    refine zz_callV0 (As := [.int v5, .int (126 + v7), .int 0]) C ddM_getOnce_164 wd_1511 my_M_set mv_M_set ⟨_, rfl, rfl⟩ (xM_set hG (d - 1) (by omega) hq10) (by omega) h11 rfl rfl (Nat.le_of_ble_eq_true rfl) ?_
    refine zz_iinc (v := v7 + 1) (L1 := [(7, .int (v7 + 1)), (0, .ref v0), (1, .int v1), (2, .int v2), (5, .int v5), (6, .int v6)]) C 5 ddM_getOnce_167 rfl rfl N (by decide) rfl ?_
    refine zz_goto (tgt := 125) C ddM_getOnce_170 rfl ?_
    refine zz_loc (L1 := [(0, .ref v0), (1, .int v1), (2, .int v2), (5, .int v5), (6, .int v6), (7, .int (v7 + 1))]) [1, 2, 3, 4, 5, 0] rfl ?_
    exact hK _ _ h
set_option maxHeartbeats 2000000 in
theorem zLM_getOnce_125 {G : GXM} {X : CxM} (hG : GokM G) (C : CoM G X cM_getOnce "HomeFreedModel") (N : mLM X = 8) {d : Nat} (hD : dpM X = d) (hd : 3 ≤ d) {v0 : Nat} {v1 : Int32} {v2 : Int32} {v5 : Int32} {v6 : Int32} {q : (Mem)} : ∀ (f : Nat) (v7 : Int32) (M : Mem), LM_getOnce_125 f v0 v1 v2 v5 v6 v7 M = some q → (hx0 : ∀ y : Mem, q = y → ZM G X 173 [(0, .ref v0), (1, .int v1), (5, .int v5), (6, .int v6)] [] y 0 0) → ZM G X 125 [(0, .ref v0), (1, .int v1), (2, .int v2), (5, .int v5), (6, .int v6), (7, .int v7)] [] M 0 0 := by
  intro f
  induction f with
  | zero => intro v7 M h; cases h
  | succ f ih =>
    intro v7 M h hx0
    exact zBM_getOnce_125 hG C N hD hd (K := LM_getOnce_125 f) (q := q) (fun v7 M h => ih v7 M h hx0) hx0 h
set_option maxHeartbeats 2000000 in
theorem zBM_getOnce_99 {G : GXM} {X : CxM} (hG : GokM G) (C : CoM G X cM_getOnce "HomeFreedModel") (N : mLM X = 8) {d : Nat} (hD : dpM X = d) (hd : 3 ≤ d)  {q : Int32 × Mem} (E : EnM G X (some .int) (some (.int q.1)) q.2 0 0) {v0 : Nat} {v1 : Int32} {v2 : Int32} {v5 : Int32} {w0 : Int32} {M : Mem} (h : BM_getOnce_99 v0 v1 v2 v5 w0 M = some q) : ZM G X 99 [(0, .ref v0), (1, .int v1), (2, .int v2), (5, .int v5)] [.int w0] M 0 0 := by
  unfold BM_getOnce_99 at h
  refine zz_istore (L1 := [(6, .int w0), (0, .ref v0), (1, .int v1), (2, .int v2), (5, .int v5)]) C ddM_getOnce_99 N (by decide) rfl ?_
  refine zz_iload C 0 ddM_getOnce_101 rfl ?_
  refine zz_if_ne (tgt := 173) C ddM_getOnce_103 rfl (fun hc => ?_) (fun hc => ?_)
  · replace h := iteF h hc
    refine zz_loc (L1 := [(0, .ref v0), (1, .int v1), (5, .int v5), (6, .int w0)]) [1, 2, 4, 0] rfl ?_
    exact zBM_getOnce_173 hG C N hD hd E h
  · replace h := iteT h hc
    refine zz_aload_n C 1 ddM_getOnce_106 rfl rfl ?_
    refine zz_iload_n C 3 ddM_getOnce_107 rfl rfl ?_
    refine zz_iconst (v := 0) C ddM_getOnce_108 (by decide) ?_
    obtain ⟨h2, h⟩ := gdN h
    obtain ⟨q1, hq1, h⟩ := bindN h
    refine zz_callV0 (As := [.int v2, .int 0]) C ddM_getOnce_109 wd_1471 my_M_otherPage mv_M_otherPage ⟨_, rfl, rfl⟩ (xM_otherPage hG (d - 1) (by omega) hq1) (by omega) h2 rfl rfl (Nat.le_of_ble_eq_true rfl) ?_
    refine zz_istore (L1 := [(5, .int q1.1), (6, .int w0), (0, .ref v0), (1, .int v1), (2, .int v2)]) C ddM_getOnce_112 N (by decide) rfl ?_
    refine zz_aload_n C 2 ddM_getOnce_114 rfl rfl ?_
    refine zz_iload C 0 ddM_getOnce_115 rfl ?_
    refine zz_iconst (v := 2) C ddM_getOnce_117 (by decide) ?_
    refine zz_iload_n C 4 ddM_getOnce_118 rfl rfl ?_
    obtain ⟨h4, h⟩ := gdN h
    obtain ⟨q3, hq3, h⟩ := bindN h
    refine zz_callV0 (As := [.int q1.1, .int 2, .int v2]) C ddM_getOnce_119 wd_1511 my_M_set mv_M_set ⟨_, rfl, rfl⟩ (xM_set hG (d - 1) (by omega) hq3) (by omega) h4 rfl rfl (Nat.le_of_ble_eq_true rfl) ?_
    refine zz_iconst (v := 0) C ddM_getOnce_122 (by decide) ?_
    refine zz_istore (L1 := [(7, .int 0), (5, .int q1.1), (6, .int w0), (0, .ref v0), (1, .int v1), (2, .int v2)]) C ddM_getOnce_123 N (by decide) rfl ?_
    refine zz_loc (L1 := [(0, .ref v0), (1, .int v1), (2, .int v2), (5, .int q1.1), (6, .int w0), (7, .int 0)]) [3, 4, 5, 1, 2, 0] rfl ?_
    obtain ⟨q5, hq5, h⟩ := bindN h
    refine zLM_getOnce_125 hG C N hD hd 1000000 _ _ hq5 ?_
    · intro y6 eq5; replace eq5 := eq5.symm; subst eq5
      exact zBM_getOnce_173 hG C N hD hd E h
set_option maxHeartbeats 2000000 in
theorem zBM_getOnce_56 {G : GXM} {X : CxM} (hG : GokM G) (C : CoM G X cM_getOnce "HomeFreedModel") (N : mLM X = 8) {d : Nat} (hD : dpM X = d) (hd : 3 ≤ d)  {q : Int32 × Mem} (E : EnM G X (some .int) (some (.int q.1)) q.2 0 0) {w0 : Nat} {w1 : Int32} {w2 : Int32} {M : Mem} (h : BM_getOnce_56 w0 w1 w2 M = some q) : ZM G X 56 [] [.int w2, .int w1, .ref w0] M 0 0 := by
  unfold BM_getOnce_56 at h
  obtain ⟨h2, h⟩ := gdN h
  obtain ⟨q1, hq1, h⟩ := bindN h
  refine zz_callV0 (As := [.int w1, .int w2]) C ddM_getOnce_56 wd_1503 my_M_takeBlock mv_M_takeBlock ⟨_, rfl, rfl⟩ (xM_takeBlock hG (d - 1) (by omega) hq1) (by omega) h2 rfl rfl (Nat.le_of_ble_eq_true rfl) ?_
  obtain rfl := Option.some.inj h
  exact zz_iret C E ddM_getOnce_59
set_option maxHeartbeats 2000000 in
theorem zBM_getOnce_9 {G : GXM} {X : CxM} (hG : GokM G) (C : CoM G X cM_getOnce "HomeFreedModel") (N : mLM X = 8) {d : Nat} (hD : dpM X = d) (hd : 3 ≤ d) {v0 : Nat} {v1 : Int32} {v2 : Int32} {v3 : Int32} {K : Nat → Int32 → Int32 → Int32 → Int32 → Mem → Option ((Int32 × Int32 × Int32 × Mem) ⊕ (Mem))} {q : (Int32 × Int32 × Int32 × Mem) ⊕ (Mem)} (hK : ∀ (v4 : Int32) (M : Mem), K v0 v1 v2 v3 v4 M = some q → ZM G X 9 [(0, .ref v0), (1, .int v1), (2, .int v2), (3, .int v3), (4, .int v4)] [] M 0 0) (hx0 : ∀ y : Int32 × Int32 × Int32 × Mem, q = (.inl y) → ZM G X 42 [(0, .ref v0), (4, .int y.1), (5, .int y.2.1), (6, .int y.2.2.1)] [] y.2.2.2 0 0) (hx1 : ∀ y : Mem, q = (.inr y) → ZM G X 80 [(0, .ref v0), (1, .int v1), (2, .int v2)] [] y 0 0) {v4 : Int32} {M : Mem} (h : BM_getOnce_9 K v0 v1 v2 v3 v4 M = some q) : ZM G X 9 [(0, .ref v0), (1, .int v1), (2, .int v2), (3, .int v3), (4, .int v4)] [] M 0 0 := by
  unfold BM_getOnce_9 at h
  refine zz_aload_n C 0 ddM_getOnce_9 rfl rfl ?_
  obtain ⟨h1, h⟩ := gdN h
  obtain ⟨h2, h⟩ := gdN h
  refine zz_getr C ddM_getOnce_10 fl_M_31 rfl h1 (of_decide_eq_true h2) ?_
  refine zz_iload_n C 3 ddM_getOnce_13 rfl rfl ?_
  obtain ⟨h3, h⟩ := gdN h
  refine zz_iaload C ddM_getOnce_14 h3 ?_
  refine zz_if_le (tgt := 80) C ddM_getOnce_15 rfl (fun hc => ?_) (fun hc => ?_)
  · replace h := iteT h hc
    refine zz_loc (L1 := [(0, .ref v0), (1, .int v1), (2, .int v2)]) [0, 1, 2] rfl ?_
    exact hx1 _ (Option.some.inj h).symm
  · replace h := iteF h hc
    refine zz_aload_n C 0 ddM_getOnce_18 rfl rfl ?_
    refine zz_getr C ddM_getOnce_19 fl_M_31 rfl h1 (of_decide_eq_true h2) ?_
    refine zz_iload_n C 3 ddM_getOnce_22 rfl rfl ?_
    refine zz_iconst (v := 1) C ddM_getOnce_23 (by decide) ?_
    refine zz_iadd C ddM_getOnce_24 ?_
    obtain ⟨h4, h⟩ := gdN h
    refine zz_iaload C ddM_getOnce_25 h4 ?_
    refine zz_istore (L1 := [(5, .int (giM M (grM M v0 15) (Int32.toNatClampNeg (v3 + 1)))), (0, .ref v0), (1, .int v1), (2, .int v2), (3, .int v3), (4, .int v4)]) C ddM_getOnce_26 N (by decide) rfl ?_
    refine zz_aload_n C 1 ddM_getOnce_28 rfl rfl ?_
    refine zz_iload C 0 ddM_getOnce_29 rfl ?_
    obtain ⟨q5, hq5, h⟩ := bindN h
    refine zz_callV0 (As := [.int (giM M (grM M v0 15) (Int32.toNatClampNeg (v3 + 1)))]) C ddM_getOnce_31 wd_1491 my_M_collect mv_M_collect ⟨_, rfl, rfl⟩ (xM_collect hG (d - 1) (by omega) hq5) (by omega) h1 rfl rfl (Nat.le_of_ble_eq_true rfl) ?_
    refine zz_istore (L1 := [(6, .int q5.1), (5, .int (giM M (grM M v0 15) (Int32.toNatClampNeg (v3 + 1)))), (0, .ref v0), (1, .int v1), (2, .int v2), (3, .int v3), (4, .int v4)]) C ddM_getOnce_34 N (by decide) rfl ?_
    refine zz_iload C 0 ddM_getOnce_36 rfl ?_
    refine zz_iconst (v := (-1)) C ddM_getOnce_38 (by decide) ?_
    refine zz_icmp_eq (tgt := 60) C ddM_getOnce_39 rfl (fun hc => ?_) (fun hc => ?_)
    · replace h := iteT h hc
      refine zz_aload_n C 2 ddM_getOnce_60 rfl rfl ?_
      refine zz_iload_n C 5 ddM_getOnce_61 rfl rfl ?_
      obtain ⟨h7, h⟩ := gdN h
      obtain ⟨q6, hq6, h⟩ := bindN h
      refine zz_callV0 (As := [.int v3]) C ddM_getOnce_62 wd_1507 my_M_takeFirst mv_M_takeFirst ⟨_, rfl, rfl⟩ (xM_takeFirst hG (d - 1) (by omega) hq6) (by omega) h7 rfl rfl (Nat.le_of_ble_eq_true rfl) ?_
      refine zz_pop C ddM_getOnce_65 rfl ?_
      refine zz_aload_n C 2 ddM_getOnce_66 rfl rfl ?_
      refine zz_iload C 1 ddM_getOnce_67 rfl ?_
      refine zz_iconst (v := 0) C ddM_getOnce_69 (by decide) ?_
      refine zz_iconst (v := 2) C ddM_getOnce_70 (by decide) ?_
      obtain ⟨h9, h⟩ := gdN h
      obtain ⟨q8, hq8, h⟩ := bindN h
      refine zz_callV0 (As := [.int (giM M (grM M v0 15) (Int32.toNatClampNeg (v3 + 1))), .int 0, .int 2]) C ddM_getOnce_71 wd_1511 my_M_set mv_M_set ⟨_, rfl, rfl⟩ (xM_set hG (d - 1) (by omega) hq8) (by omega) h9 rfl rfl (Nat.le_of_ble_eq_true rfl) ?_
      refine zz_iconst (v := 0) C ddM_getOnce_74 (by decide) ?_
      refine zz_istore (L1 := [(4, .int 0), (6, .int q5.1), (5, .int (giM M (grM M v0 15) (Int32.toNatClampNeg (v3 + 1)))), (0, .ref v0), (1, .int v1), (2, .int v2), (3, .int v3)]) C ddM_getOnce_75 N (by decide) rfl ?_
      refine zz_goto (tgt := 9) C ddM_getOnce_77 rfl ?_
      refine zz_loc (L1 := [(0, .ref v0), (1, .int v1), (2, .int v2), (3, .int v3), (4, .int 0)]) [3, 4, 5, 6, 0] rfl ?_
      exact hK _ _ h
    · replace h := iteF h hc
      refine zz_loc (L1 := [(0, .ref v0), (4, .int v4), (5, .int (giM M (grM M v0 15) (Int32.toNatClampNeg (v3 + 1)))), (6, .int q5.1)]) [2, 6, 1, 0] rfl ?_
      exact hx0 _ (Option.some.inj h).symm
set_option maxHeartbeats 2000000 in
theorem zLM_getOnce_9 {G : GXM} {X : CxM} (hG : GokM G) (C : CoM G X cM_getOnce "HomeFreedModel") (N : mLM X = 8) {d : Nat} (hD : dpM X = d) (hd : 3 ≤ d) {v0 : Nat} {v1 : Int32} {v2 : Int32} {v3 : Int32} {q : (Int32 × Int32 × Int32 × Mem) ⊕ (Mem)} : ∀ (f : Nat) (v4 : Int32) (M : Mem), LM_getOnce_9 f v0 v1 v2 v3 v4 M = some q → (hx0 : ∀ y : Int32 × Int32 × Int32 × Mem, q = (.inl y) → ZM G X 42 [(0, .ref v0), (4, .int y.1), (5, .int y.2.1), (6, .int y.2.2.1)] [] y.2.2.2 0 0) → (hx1 : ∀ y : Mem, q = (.inr y) → ZM G X 80 [(0, .ref v0), (1, .int v1), (2, .int v2)] [] y 0 0) → ZM G X 9 [(0, .ref v0), (1, .int v1), (2, .int v2), (3, .int v3), (4, .int v4)] [] M 0 0 := by
  intro f
  induction f with
  | zero => intro v4 M h; cases h
  | succ f ih =>
    intro v4 M h hx0 hx1
    exact zBM_getOnce_9 hG C N hD hd (K := LM_getOnce_9 f) (q := q) (fun v4 M h => ih v4 M h hx0 hx1) hx0 hx1 h
set_option maxHeartbeats 2000000 in
theorem xM_getOnce {G : GXM} {l : Launch} (hG : GokM G) (d : Nat) (hd : 3 ≤ d) {v0 : Nat} {v1 : Int32} {v2 : Int32} {M : Mem} {q : Int32 × Mem} (h : fM_getOnce v0 v1 v2 M = some q) : ExM G l d 0 0 yM_getOnce cM_getOnce 8 (some .int) [.ref v0, .int v1, .int v2] M (some (.int q.1)) q.2 := by
  refine ex_of hG (by decide +kernel) (Nat.le_of_ble_eq_true rfl) ?_
  intro X hl C E N hD hn
  show ZM G X 0 [(0, .ref v0), (1, .int v1), (2, .int v2)] [] M 0 0
  unfold fM_getOnce at h
  refine zz_iload_n C 1 ddM_getOnce_0 rfl rfl ?_
  refine zz_iload_n C 2 ddM_getOnce_1 rfl rfl ?_
  obtain ⟨q1, hq1, h⟩ := bindN h
  refine zz_callS0 (As := [.int v1, .int v2]) C ddM_getOnce_2 wd_1432 my_M_queueAt mv_M_queueAt (xM_queueAt hG (d - 1) (by omega) hq1) (by omega) rfl rfl (Nat.le_of_ble_eq_true rfl) ?_
  refine zz_istore_n (L1 := [(3, .int q1.1), (0, .ref v0), (1, .int v1), (2, .int v2)]) C ddM_getOnce_5 rfl N (by decide) rfl ?_
  refine zz_iconst (v := 1) C ddM_getOnce_6 (by decide) ?_
  refine zz_istore (L1 := [(4, .int 1), (3, .int q1.1), (0, .ref v0), (1, .int v1), (2, .int v2)]) C ddM_getOnce_7 N (by decide) rfl ?_
  refine zz_loc (L1 := [(0, .ref v0), (1, .int v1), (2, .int v2), (3, .int q1.1), (4, .int 1)]) [2, 3, 4, 1, 0] rfl ?_
  obtain ⟨q2, hq2, h⟩ := bindN h
  refine zLM_getOnce_9 hG C N hD hd 1000000 _ _ hq2 ?_ ?_
  · intro y3 eq2; replace eq2 := eq2.symm; subst eq2
    refine zz_aload_n C 0 ddM_getOnce_42 rfl rfl ?_
    refine zz_iload C 2 ddM_getOnce_43 rfl ?_
    refine zz_iload C 1 ddM_getOnce_45 rfl ?_
    refine zz_if_eq (tgt := 55) C ddM_getOnce_47 rfl (fun hc => ?_) (fun hc => ?_)
    · replace h := iteT h hc
      refine zz_iconst (v := 3) C ddM_getOnce_55 (by decide) ?_
      refine zz_loc (L1 := []) [] rfl ?_
      exact zBM_getOnce_56 hG C N hD hd E h
    · replace h := iteF h hc
      refine zz_iload C 3 ddM_getOnce_50 rfl ?_
      refine zz_goto (tgt := 56) C ddM_getOnce_52 rfl ?_
      refine zz_loc (L1 := []) [] rfl ?_
      exact zBM_getOnce_56 hG C N hD hd E h
  · intro y4 eq2; replace eq2 := eq2.symm; subst eq2
    refine zz_aload_n C 0 ddM_getOnce_80 rfl rfl ?_
    refine zz_iload_n C 2 ddM_getOnce_81 rfl rfl ?_
    refine zz_iconst (v := 1) C ddM_getOnce_82 (by decide) ?_
    obtain ⟨h6, h⟩ := gdN h
    obtain ⟨q5, hq5, h⟩ := bindN h
    refine zz_callV0 (As := [.int v2, .int 1]) C ddM_getOnce_83 wd_1471 my_M_otherPage mv_M_otherPage ⟨_, rfl, rfl⟩ (xM_otherPage hG (d - 1) (by omega) hq5) (by omega) h6 rfl rfl (Nat.le_of_ble_eq_true rfl) ?_
    refine zz_istore (L1 := [(5, .int q5.1), (0, .ref v0), (1, .int v1), (2, .int v2)]) C ddM_getOnce_86 N (by decide) rfl ?_
    refine zz_iload C 0 ddM_getOnce_88 rfl ?_
    refine zz_iconst (v := (-1)) C ddM_getOnce_90 (by decide) ?_
    refine zz_icmp_eq (tgt := 98) C ddM_getOnce_91 rfl (fun hc => ?_) (fun hc => ?_)
    · replace h := iteT h hc
      refine zz_iconst (v := 0) C ddM_getOnce_98 (by decide) ?_
      refine zz_loc (L1 := [(0, .ref v0), (1, .int v1), (2, .int v2), (5, .int q5.1)]) [1, 2, 3, 0] rfl ?_
      exact zBM_getOnce_99 hG C N hD hd E h
    · replace h := iteF h hc
      refine zz_iconst (v := 1) C ddM_getOnce_94 (by decide) ?_
      refine zz_goto (tgt := 99) C ddM_getOnce_95 rfl ?_
      refine zz_loc (L1 := [(0, .ref v0), (1, .int v1), (2, .int v2), (5, .int q5.1)]) [1, 2, 3, 0] rfl ?_
      exact zBM_getOnce_99 hG C N hD hd E h
theorem ddM_takeOut_0 : decode cM_takeOut 0 = .ok (.iconst 0, 1) := by decide +kernel
theorem ddM_takeOut_1 : decode cM_takeOut 1 = .ok (.istore_n 3, 1) := by decide +kernel
theorem ddM_takeOut_2 : decode cM_takeOut 2 = .ok (.iconst 1, 1) := by decide +kernel
theorem ddM_takeOut_3 : decode cM_takeOut 3 = .ok (.istore 4, 2) := by decide +kernel
theorem ddM_takeOut_5 : decode cM_takeOut 5 = .ok (.iload 4, 2) := by decide +kernel
theorem ddM_takeOut_7 : decode cM_takeOut 7 = .ok (.aload_n 0, 1) := by decide +kernel
theorem ddM_takeOut_8 : decode cM_takeOut 8 = .ok (.getfield 31, 3) := by decide +kernel
theorem ddM_takeOut_11 : decode cM_takeOut 11 = .ok (.iload_n 1, 1) := by decide +kernel
theorem ddM_takeOut_12 : decode cM_takeOut 12 = .ok (.iaload, 1) := by decide +kernel
theorem ddM_takeOut_13 : decode cM_takeOut 13 = .ok (.if_icmp .gt 42, 3) := by decide +kernel
theorem ddM_takeOut_16 : decode cM_takeOut 16 = .ok (.aload_n 0, 1) := by decide +kernel
theorem ddM_takeOut_17 : decode cM_takeOut 17 = .ok (.getfield 31, 3) := by decide +kernel
theorem ddM_takeOut_20 : decode cM_takeOut 20 = .ok (.iload_n 1, 1) := by decide +kernel
theorem ddM_takeOut_21 : decode cM_takeOut 21 = .ok (.iload 4, 2) := by decide +kernel
theorem ddM_takeOut_23 : decode cM_takeOut 23 = .ok (.iadd, 1) := by decide +kernel
theorem ddM_takeOut_24 : decode cM_takeOut 24 = .ok (.iaload, 1) := by decide +kernel
theorem ddM_takeOut_25 : decode cM_takeOut 25 = .ok (.iload_n 2, 1) := by decide +kernel
theorem ddM_takeOut_26 : decode cM_takeOut 26 = .ok (.if_icmp .eq 23, 3) := by decide +kernel
theorem ddM_takeOut_29 : decode cM_takeOut 29 = .ok (.iinc 3 1, 3) := by decide +kernel
theorem ddM_takeOut_32 : decode cM_takeOut 32 = .ok (.aload_n 0, 1) := by decide +kernel
theorem ddM_takeOut_33 : decode cM_takeOut 33 = .ok (.getfield 31, 3) := by decide +kernel
theorem ddM_takeOut_36 : decode cM_takeOut 36 = .ok (.iload_n 1, 1) := by decide +kernel
theorem ddM_takeOut_37 : decode cM_takeOut 37 = .ok (.iload_n 3, 1) := by decide +kernel
theorem ddM_takeOut_38 : decode cM_takeOut 38 = .ok (.iadd, 1) := by decide +kernel
theorem ddM_takeOut_39 : decode cM_takeOut 39 = .ok (.aload_n 0, 1) := by decide +kernel
theorem ddM_takeOut_40 : decode cM_takeOut 40 = .ok (.getfield 31, 3) := by decide +kernel
theorem ddM_takeOut_43 : decode cM_takeOut 43 = .ok (.iload_n 1, 1) := by decide +kernel
theorem ddM_takeOut_44 : decode cM_takeOut 44 = .ok (.iload 4, 2) := by decide +kernel
theorem ddM_takeOut_46 : decode cM_takeOut 46 = .ok (.iadd, 1) := by decide +kernel
theorem ddM_takeOut_47 : decode cM_takeOut 47 = .ok (.iaload, 1) := by decide +kernel
theorem ddM_takeOut_48 : decode cM_takeOut 48 = .ok (.iastore, 1) := by decide +kernel
theorem ddM_takeOut_49 : decode cM_takeOut 49 = .ok (.iinc 4 1, 3) := by decide +kernel
theorem ddM_takeOut_52 : decode cM_takeOut 52 = .ok (.goto (-47), 3) := by decide +kernel
theorem ddM_takeOut_55 : decode cM_takeOut 55 = .ok (.aload_n 0, 1) := by decide +kernel
theorem ddM_takeOut_56 : decode cM_takeOut 56 = .ok (.getfield 31, 3) := by decide +kernel
theorem ddM_takeOut_59 : decode cM_takeOut 59 = .ok (.iload_n 1, 1) := by decide +kernel
theorem ddM_takeOut_60 : decode cM_takeOut 60 = .ok (.iload_n 3, 1) := by decide +kernel
theorem ddM_takeOut_61 : decode cM_takeOut 61 = .ok (.iastore, 1) := by decide +kernel
theorem ddM_takeOut_62 : decode cM_takeOut 62 = .ok (.return_, 1) := by decide +kernel
set_option maxHeartbeats 2000000 in
theorem zBM_takeOut_49 {G : GXM} {X : CxM} (hG : GokM G) (C : CoM G X cM_takeOut "HomeFreedModel") (N : mLM X = 5) {d : Nat} (hD : dpM X = d) (hd : 0 ≤ d) {v0 : Nat} {v1 : Int32} {v2 : Int32} {K : Nat → Int32 → Int32 → Int32 → Int32 → Mem → Option ((Mem))} {q : (Mem)} (hK : ∀ (v3 : Int32) (v4 : Int32) (M : Mem), K v0 v1 v2 v3 v4 M = some q → ZM G X 5 [(0, .ref v0), (1, .int v1), (2, .int v2), (3, .int v3), (4, .int v4)] [] M 0 0) (hr : ∀ r : Mem, q =  r → EnM G X none none r 0 0) {v3 : Int32} {v4 : Int32} {M : Mem} (h : BM_takeOut_49 K v0 v1 v2 v3 v4 M = some q) : ZM G X 49 [(0, .ref v0), (1, .int v1), (2, .int v2), (3, .int v3), (4, .int v4)] [] M 0 0 := by
  unfold BM_takeOut_49 at h
  refine zz_iinc (v := v4 + 1) (L1 := [(4, .int (v4 + 1)), (0, .ref v0), (1, .int v1), (2, .int v2), (3, .int v3)]) C 4 ddM_takeOut_49 rfl rfl N (by decide) rfl ?_
  refine zz_goto (tgt := 5) C ddM_takeOut_52 rfl ?_
  refine zz_loc (L1 := [(0, .ref v0), (1, .int v1), (2, .int v2), (3, .int v3), (4, .int (v4 + 1))]) [1, 2, 3, 4, 0] rfl ?_
  exact hK _ _ _ h
set_option maxHeartbeats 2000000 in
theorem zBM_takeOut_5 {G : GXM} {X : CxM} (hG : GokM G) (C : CoM G X cM_takeOut "HomeFreedModel") (N : mLM X = 5) {d : Nat} (hD : dpM X = d) (hd : 0 ≤ d) {v0 : Nat} {v1 : Int32} {v2 : Int32} {K : Nat → Int32 → Int32 → Int32 → Int32 → Mem → Option ((Mem))} {q : (Mem)} (hK : ∀ (v3 : Int32) (v4 : Int32) (M : Mem), K v0 v1 v2 v3 v4 M = some q → ZM G X 5 [(0, .ref v0), (1, .int v1), (2, .int v2), (3, .int v3), (4, .int v4)] [] M 0 0) (hr : ∀ r : Mem, q =  r → EnM G X none none r 0 0) {v3 : Int32} {v4 : Int32} {M : Mem} (h : BM_takeOut_5 K v0 v1 v2 v3 v4 M = some q) : ZM G X 5 [(0, .ref v0), (1, .int v1), (2, .int v2), (3, .int v3), (4, .int v4)] [] M 0 0 := by
  unfold BM_takeOut_5 at h
  refine zz_iload C 4 ddM_takeOut_5 rfl ?_
  refine zz_aload_n C 0 ddM_takeOut_7 rfl rfl ?_
  obtain ⟨h1, h⟩ := gdN h
  obtain ⟨h2, h⟩ := gdN h
  refine zz_getr C ddM_takeOut_8 fl_M_31 rfl h1 (of_decide_eq_true h2) ?_
  refine zz_iload_n C 1 ddM_takeOut_11 rfl rfl ?_
  obtain ⟨h3, h⟩ := gdN h
  refine zz_iaload C ddM_takeOut_12 h3 ?_
  refine zz_icmp_gt (tgt := 55) C ddM_takeOut_13 rfl (fun hc => ?_) (fun hc => ?_)
  · replace h := iteT h hc
    refine zz_aload_n C 0 ddM_takeOut_55 rfl rfl ?_
    refine zz_getr C ddM_takeOut_56 fl_M_31 rfl h1 (of_decide_eq_true h2) ?_
    refine zz_iload_n C 1 ddM_takeOut_59 rfl rfl ?_
    refine zz_iload_n C 3 ddM_takeOut_60 rfl rfl ?_
    obtain ⟨h4, h⟩ := gdN h
    refine zz_iastore C ddM_takeOut_61 h4 ?_
    exact zz_vret C (hr _ (Option.some.inj h).symm) ddM_takeOut_62
  · replace h := iteF h hc
    refine zz_aload_n C 0 ddM_takeOut_16 rfl rfl ?_
    refine zz_getr C ddM_takeOut_17 fl_M_31 rfl h1 (of_decide_eq_true h2) ?_
    refine zz_iload_n C 1 ddM_takeOut_20 rfl rfl ?_
    refine zz_iload C 4 ddM_takeOut_21 rfl ?_
    refine zz_iadd C ddM_takeOut_23 ?_
    obtain ⟨h5, h⟩ := gdN h
    refine zz_iaload C ddM_takeOut_24 h5 ?_
    refine zz_iload_n C 2 ddM_takeOut_25 rfl rfl ?_
    refine zz_icmp_eq (tgt := 49) C ddM_takeOut_26 rfl (fun hc => ?_) (fun hc => ?_)
    · replace h := iteT h hc
      exact zBM_takeOut_49 hG C N hD hd hK hr h
    · replace h := iteF h hc
      refine zz_iinc (v := v3 + 1) (L1 := [(3, .int (v3 + 1)), (0, .ref v0), (1, .int v1), (2, .int v2), (4, .int v4)]) C 3 ddM_takeOut_29 rfl rfl N (by decide) rfl ?_
      refine zz_aload_n C 1 ddM_takeOut_32 rfl rfl ?_
      refine zz_getr C ddM_takeOut_33 fl_M_31 rfl h1 (of_decide_eq_true h2) ?_
      refine zz_iload_n C 2 ddM_takeOut_36 rfl rfl ?_
      refine zz_iload_n C 0 ddM_takeOut_37 rfl rfl ?_
      refine zz_iadd C ddM_takeOut_38 ?_
      refine zz_aload_n C 1 ddM_takeOut_39 rfl rfl ?_
      refine zz_getr C ddM_takeOut_40 fl_M_31 rfl h1 (of_decide_eq_true h2) ?_
      refine zz_iload_n C 2 ddM_takeOut_43 rfl rfl ?_
      refine zz_iload C 4 ddM_takeOut_44 rfl ?_
      refine zz_iadd C ddM_takeOut_46 ?_
      refine zz_iaload C ddM_takeOut_47 h5 ?_
      obtain ⟨h6, h⟩ := gdN h
      refine zz_iastore C ddM_takeOut_48 h6 ?_
      refine zz_loc (L1 := [(0, .ref v0), (1, .int v1), (2, .int v2), (3, .int (v3 + 1)), (4, .int v4)]) [1, 2, 3, 0, 4] rfl ?_
      exact zBM_takeOut_49 hG C N hD hd hK hr h
set_option maxHeartbeats 2000000 in
theorem zLM_takeOut_5 {G : GXM} {X : CxM} (hG : GokM G) (C : CoM G X cM_takeOut "HomeFreedModel") (N : mLM X = 5) {d : Nat} (hD : dpM X = d) (hd : 0 ≤ d) {v0 : Nat} {v1 : Int32} {v2 : Int32} {q : (Mem)} : ∀ (f : Nat) (v3 : Int32) (v4 : Int32) (M : Mem), LM_takeOut_5 f v0 v1 v2 v3 v4 M = some q → (hr : ∀ r : Mem, q =  r → EnM G X none none r 0 0) → ZM G X 5 [(0, .ref v0), (1, .int v1), (2, .int v2), (3, .int v3), (4, .int v4)] [] M 0 0 := by
  intro f
  induction f with
  | zero => intro v3 v4 M h; cases h
  | succ f ih =>
    intro v3 v4 M h hr
    exact zBM_takeOut_5 hG C N hD hd (K := LM_takeOut_5 f) (q := q) (fun v3 v4 M h => ih v3 v4 M h hr) hr h
set_option maxHeartbeats 2000000 in
theorem xM_takeOut {G : GXM} {l : Launch} (hG : GokM G) (d : Nat) (hd : 0 ≤ d) {v0 : Nat} {v1 : Int32} {v2 : Int32} {M : Mem} {q : Mem} (h : fM_takeOut v0 v1 v2 M = some q) : ExM G l d 0 0 yM_takeOut cM_takeOut 5 none [.ref v0, .int v1, .int v2] M none q := by
  refine ex_of hG (by decide +kernel) (Nat.le_of_ble_eq_true rfl) ?_
  intro X hl C E N hD hn
  show ZM G X 0 [(0, .ref v0), (1, .int v1), (2, .int v2)] [] M 0 0
  unfold fM_takeOut at h
  refine zz_iconst (v := 0) C ddM_takeOut_0 (by decide) ?_
  refine zz_istore_n (L1 := [(3, .int 0), (0, .ref v0), (1, .int v1), (2, .int v2)]) C ddM_takeOut_1 rfl N (by decide) rfl ?_
  refine zz_iconst (v := 1) C ddM_takeOut_2 (by decide) ?_
  refine zz_istore (L1 := [(4, .int 1), (3, .int 0), (0, .ref v0), (1, .int v1), (2, .int v2)]) C ddM_takeOut_3 N (by decide) rfl ?_
  refine zz_loc (L1 := [(0, .ref v0), (1, .int v1), (2, .int v2), (3, .int 0), (4, .int 1)]) [2, 3, 4, 1, 0] rfl ?_
  obtain ⟨q1, hq1, h⟩ := bindN h
  refine zLM_takeOut_5 hG C N hD hd 1000000 _ _ _ hq1 ?_
  · intro r2 eq1; replace eq1 := eq1.symm; subst eq1
    obtain rfl := Option.some.inj h
    exact E
theorem ddM_leaveQueue_0 : decode cM_leaveQueue 0 = .ok (.aload_n 0, 1) := by decide +kernel
theorem ddM_leaveQueue_1 : decode cM_leaveQueue 1 = .ok (.iload_n 1, 1) := by decide +kernel
theorem ddM_leaveQueue_2 : decode cM_leaveQueue 2 = .ok (.iconst 0, 1) := by decide +kernel
theorem ddM_leaveQueue_3 : decode cM_leaveQueue 3 = .ok (.invokevirtual 170, 3) := by decide +kernel
theorem ddM_leaveQueue_6 : decode cM_leaveQueue 6 = .ok (.iconst 1, 1) := by decide +kernel
theorem ddM_leaveQueue_7 : decode cM_leaveQueue 7 = .ok (.if_icmp .ne 13, 3) := by decide +kernel
theorem ddM_leaveQueue_10 : decode cM_leaveQueue 10 = .ok (.aload_n 0, 1) := by decide +kernel
theorem ddM_leaveQueue_11 : decode cM_leaveQueue 11 = .ok (.aload_n 0, 1) := by decide +kernel
theorem ddM_leaveQueue_12 : decode cM_leaveQueue 12 = .ok (.iload_n 1, 1) := by decide +kernel
theorem ddM_leaveQueue_13 : decode cM_leaveQueue 13 = .ok (.invokevirtual 189, 3) := by decide +kernel
theorem ddM_leaveQueue_16 : decode cM_leaveQueue 16 = .ok (.iload_n 1, 1) := by decide +kernel
theorem ddM_leaveQueue_17 : decode cM_leaveQueue 17 = .ok (.invokevirtual 195, 3) := by decide +kernel
theorem ddM_leaveQueue_20 : decode cM_leaveQueue 20 = .ok (.return_, 1) := by decide +kernel
set_option maxHeartbeats 2000000 in
theorem zBM_leaveQueue_20 {G : GXM} {X : CxM} (hG : GokM G) (C : CoM G X cM_leaveQueue "HomeFreedModel") (N : mLM X = 2) {d : Nat} (hD : dpM X = d) (hd : 2 ≤ d)  {q : Mem} (E : EnM G X none none q 0 0) {M : Mem} (h : BM_leaveQueue_20 M = some q) : ZM G X 20 [] [] M 0 0 := by
  unfold BM_leaveQueue_20 at h
  obtain rfl := Option.some.inj h
  exact zz_vret C E ddM_leaveQueue_20
set_option maxHeartbeats 2000000 in
theorem xM_leaveQueue {G : GXM} {l : Launch} (hG : GokM G) (d : Nat) (hd : 2 ≤ d) {v0 : Nat} {v1 : Int32} {M : Mem} {q : Mem} (h : fM_leaveQueue v0 v1 M = some q) : ExM G l d 0 0 yM_leaveQueue cM_leaveQueue 2 none [.ref v0, .int v1] M none q := by
  refine ex_of hG (by decide +kernel) (Nat.le_of_ble_eq_true rfl) ?_
  intro X hl C E N hD hn
  show ZM G X 0 [(0, .ref v0), (1, .int v1)] [] M 0 0
  unfold fM_leaveQueue at h
  refine zz_aload_n C 0 ddM_leaveQueue_0 rfl rfl ?_
  refine zz_iload_n C 1 ddM_leaveQueue_1 rfl rfl ?_
  refine zz_iconst (v := 0) C ddM_leaveQueue_2 (by decide) ?_
  obtain ⟨h2, h⟩ := gdN h
  obtain ⟨q1, hq1, h⟩ := bindN h
  refine zz_callV0 (As := [.int v1, .int 0]) C ddM_leaveQueue_3 wd_1378 my_M_of mv_M_of ⟨_, rfl, rfl⟩ (xM_of hG (d - 1) (by omega) hq1) (by omega) h2 rfl rfl (Nat.le_of_ble_eq_true rfl) ?_
  refine zz_iconst (v := 1) C ddM_leaveQueue_6 (by decide) ?_
  refine zz_icmp_ne (tgt := 20) C ddM_leaveQueue_7 rfl (fun hc => ?_) (fun hc => ?_)
  · replace h := iteF h hc
    refine zz_loc (L1 := []) [] rfl ?_
    exact zBM_leaveQueue_20 hG C N hD hd E h
  · replace h := iteT h hc
    refine zz_aload_n C 0 ddM_leaveQueue_10 rfl rfl ?_
    refine zz_aload_n C 0 ddM_leaveQueue_11 rfl rfl ?_
    refine zz_iload_n C 1 ddM_leaveQueue_12 rfl rfl ?_
    obtain ⟨h4, h⟩ := gdN h
    obtain ⟨q3, hq3, h⟩ := bindN h
    refine zz_callV0 (As := [.int v1]) C ddM_leaveQueue_13 wd_1523 my_M_ownQueue mv_M_ownQueue ⟨_, rfl, rfl⟩ (xM_ownQueue hG (d - 1) (by omega) hq3) (by omega) h4 rfl rfl (Nat.le_of_ble_eq_true rfl) ?_
    refine zz_iload_n C 1 ddM_leaveQueue_16 rfl rfl ?_
    obtain ⟨h6, h⟩ := gdN h
    obtain ⟨q5, hq5, h⟩ := bindN h
    refine zz_callV0 (As := [.int q3.1, .int v1]) C ddM_leaveQueue_17 wd_1547 my_M_takeOut mv_M_takeOut ⟨_, rfl, rfl⟩ (xM_takeOut hG (d - 1) (by omega) hq5) (by omega) h6 rfl rfl (Nat.le_of_ble_eq_true rfl) ?_
    refine zz_loc (L1 := []) [] rfl ?_
    exact zBM_leaveQueue_20 hG C N hD hd E h
theorem ddM_makeEmpty_0 : decode cM_makeEmpty 0 = .ok (.aload_n 0, 1) := by decide +kernel
theorem ddM_makeEmpty_1 : decode cM_makeEmpty 1 = .ok (.iload_n 1, 1) := by decide +kernel
theorem ddM_makeEmpty_2 : decode cM_makeEmpty 2 = .ok (.invokevirtual 198, 3) := by decide +kernel
theorem ddM_makeEmpty_5 : decode cM_makeEmpty 5 = .ok (.aload_n 0, 1) := by decide +kernel
theorem ddM_makeEmpty_6 : decode cM_makeEmpty 6 = .ok (.iload_n 1, 1) := by decide +kernel
theorem ddM_makeEmpty_7 : decode cM_makeEmpty 7 = .ok (.iconst 0, 1) := by decide +kernel
theorem ddM_makeEmpty_8 : decode cM_makeEmpty 8 = .ok (.iconst 0, 1) := by decide +kernel
theorem ddM_makeEmpty_9 : decode cM_makeEmpty 9 = .ok (.invokevirtual 185, 3) := by decide +kernel
theorem ddM_makeEmpty_12 : decode cM_makeEmpty 12 = .ok (.iconst 0, 1) := by decide +kernel
theorem ddM_makeEmpty_13 : decode cM_makeEmpty 13 = .ok (.istore_n 2, 1) := by decide +kernel
theorem ddM_makeEmpty_14 : decode cM_makeEmpty 14 = .ok (.iload_n 2, 1) := by decide +kernel
theorem ddM_makeEmpty_15 : decode cM_makeEmpty 15 = .ok (.iconst 3, 1) := by decide +kernel
theorem ddM_makeEmpty_16 : decode cM_makeEmpty 16 = .ok (.if_icmp .ge 20, 3) := by decide +kernel
theorem ddM_makeEmpty_19 : decode cM_makeEmpty 19 = .ok (.aload_n 0, 1) := by decide +kernel
theorem ddM_makeEmpty_20 : decode cM_makeEmpty 20 = .ok (.getfield 31, 3) := by decide +kernel
theorem ddM_makeEmpty_23 : decode cM_makeEmpty 23 = .ok (.iload_n 1, 1) := by decide +kernel
theorem ddM_makeEmpty_24 : decode cM_makeEmpty 24 = .ok (.iload_n 2, 1) := by decide +kernel
theorem ddM_makeEmpty_25 : decode cM_makeEmpty 25 = .ok (.invokestatic 173, 3) := by decide +kernel
theorem ddM_makeEmpty_28 : decode cM_makeEmpty 28 = .ok (.iconst 0, 1) := by decide +kernel
theorem ddM_makeEmpty_29 : decode cM_makeEmpty 29 = .ok (.iastore, 1) := by decide +kernel
theorem ddM_makeEmpty_30 : decode cM_makeEmpty 30 = .ok (.iinc 2 1, 3) := by decide +kernel
theorem ddM_makeEmpty_33 : decode cM_makeEmpty 33 = .ok (.goto (-19), 3) := by decide +kernel
theorem ddM_makeEmpty_36 : decode cM_makeEmpty 36 = .ok (.return_, 1) := by decide +kernel
set_option maxHeartbeats 2000000 in
theorem zBM_makeEmpty_14 {G : GXM} {X : CxM} (hG : GokM G) (C : CoM G X cM_makeEmpty "HomeFreedModel") (N : mLM X = 3) {d : Nat} (hD : dpM X = d) (hd : 3 ≤ d) {v0 : Nat} {v1 : Int32} {K : Nat → Int32 → Int32 → Mem → Option ((Mem))} {q : (Mem)} (hK : ∀ (v2 : Int32) (M : Mem), K v0 v1 v2 M = some q → ZM G X 14 [(0, .ref v0), (1, .int v1), (2, .int v2)] [] M 0 0) (hr : ∀ r : Mem, q =  r → EnM G X none none r 0 0) {v2 : Int32} {M : Mem} (h : BM_makeEmpty_14 K v0 v1 v2 M = some q) : ZM G X 14 [(0, .ref v0), (1, .int v1), (2, .int v2)] [] M 0 0 := by
  unfold BM_makeEmpty_14 at h
  refine zz_iload_n C 2 ddM_makeEmpty_14 rfl rfl ?_
  refine zz_iconst (v := 3) C ddM_makeEmpty_15 (by decide) ?_
  refine zz_icmp_ge (tgt := 36) C ddM_makeEmpty_16 rfl (fun hc => ?_) (fun hc => ?_)
  · replace h := iteT h hc
    exact zz_vret C (hr _ (Option.some.inj h).symm) ddM_makeEmpty_36
  · replace h := iteF h hc
    refine zz_aload_n C 0 ddM_makeEmpty_19 rfl rfl ?_
    obtain ⟨h1, h⟩ := gdN h
    obtain ⟨h2, h⟩ := gdN h
    refine zz_getr C ddM_makeEmpty_20 fl_M_31 rfl h1 (of_decide_eq_true h2) ?_
    refine zz_iload_n C 1 ddM_makeEmpty_23 rfl rfl ?_
    refine zz_iload_n C 2 ddM_makeEmpty_24 rfl rfl ?_
    obtain ⟨q3, hq3, h⟩ := bindN h
    refine zz_callS0 (As := [.int v1, .int v2]) C ddM_makeEmpty_25 wd_1398 my_M_listAt mv_M_listAt (xM_listAt hG (d - 1) (by omega) hq3) (by omega) rfl rfl (Nat.le_of_ble_eq_true rfl) ?_
    refine zz_iconst (v := 0) C ddM_makeEmpty_28 (by decide) ?_
    obtain ⟨h4, h⟩ := gdN h
    refine zz_iastore C ddM_makeEmpty_29 h4 ?_
    refine zz_iinc (v := v2 + 1) (L1 := [(2, .int (v2 + 1)), (0, .ref v0), (1, .int v1)]) C 2 ddM_makeEmpty_30 rfl rfl N (by decide) rfl ?_
    refine zz_goto (tgt := 14) C ddM_makeEmpty_33 rfl ?_
    refine zz_loc (L1 := [(0, .ref v0), (1, .int v1), (2, .int (v2 + 1))]) [1, 2, 0] rfl ?_
    exact hK _ _ h
set_option maxHeartbeats 2000000 in
theorem zLM_makeEmpty_14 {G : GXM} {X : CxM} (hG : GokM G) (C : CoM G X cM_makeEmpty "HomeFreedModel") (N : mLM X = 3) {d : Nat} (hD : dpM X = d) (hd : 3 ≤ d) {v0 : Nat} {v1 : Int32} {q : (Mem)} : ∀ (f : Nat) (v2 : Int32) (M : Mem), LM_makeEmpty_14 f v0 v1 v2 M = some q → (hr : ∀ r : Mem, q =  r → EnM G X none none r 0 0) → ZM G X 14 [(0, .ref v0), (1, .int v1), (2, .int v2)] [] M 0 0 := by
  intro f
  induction f with
  | zero => intro v2 M h; cases h
  | succ f ih =>
    intro v2 M h hr
    exact zBM_makeEmpty_14 hG C N hD hd (K := LM_makeEmpty_14 f) (q := q) (fun v2 M h => ih v2 M h hr) hr h
set_option maxHeartbeats 2000000 in
theorem xM_makeEmpty {G : GXM} {l : Launch} (hG : GokM G) (d : Nat) (hd : 3 ≤ d) {v0 : Nat} {v1 : Int32} {M : Mem} {q : Mem} (h : fM_makeEmpty v0 v1 M = some q) : ExM G l d 0 0 yM_makeEmpty cM_makeEmpty 3 none [.ref v0, .int v1] M none q := by
  refine ex_of hG (by decide +kernel) (Nat.le_of_ble_eq_true rfl) ?_
  intro X hl C E N hD hn
  show ZM G X 0 [(0, .ref v0), (1, .int v1)] [] M 0 0
  unfold fM_makeEmpty at h
  refine zz_aload_n C 0 ddM_makeEmpty_0 rfl rfl ?_
  refine zz_iload_n C 1 ddM_makeEmpty_1 rfl rfl ?_
  obtain ⟨h2, h⟩ := gdN h
  obtain ⟨q1, hq1, h⟩ := bindN h
  refine zz_callV0 (As := [.int v1]) C ddM_makeEmpty_2 wd_1543 my_M_leaveQueue mv_M_leaveQueue ⟨_, rfl, rfl⟩ (xM_leaveQueue hG (d - 1) (by omega) hq1) (by omega) h2 rfl rfl (Nat.le_of_ble_eq_true rfl) ?_
  refine zz_aload_n C 0 ddM_makeEmpty_5 rfl rfl ?_
  refine zz_iload_n C 1 ddM_makeEmpty_6 rfl rfl ?_
  refine zz_iconst (v := 0) C ddM_makeEmpty_7 (by decide) ?_
  refine zz_iconst (v := 0) C ddM_makeEmpty_8 (by decide) ?_
  obtain ⟨h4, h⟩ := gdN h
  obtain ⟨q3, hq3, h⟩ := bindN h
  refine zz_callV0 (As := [.int v1, .int 0, .int 0]) C ddM_makeEmpty_9 wd_1511 my_M_set mv_M_set ⟨_, rfl, rfl⟩ (xM_set hG (d - 1) (by omega) hq3) (by omega) h4 rfl rfl (Nat.le_of_ble_eq_true rfl) ?_
  refine zz_iconst (v := 0) C ddM_makeEmpty_12 (by decide) ?_
  refine zz_istore_n (L1 := [(2, .int 0), (0, .ref v0), (1, .int v1)]) C ddM_makeEmpty_13 rfl N (by decide) rfl ?_
  refine zz_loc (L1 := [(0, .ref v0), (1, .int v1), (2, .int 0)]) [1, 2, 0] rfl ?_
  obtain ⟨q5, hq5, h⟩ := bindN h
  refine zLM_makeEmpty_14 hG C N hD hd 1000000 _ _ hq5 ?_
  · intro r6 eq5; replace eq5 := eq5.symm; subst eq5
    obtain rfl := Option.some.inj h
    exact E
theorem ddM_goHome_0 : decode cM_goHome 0 = .ok (.aload_n 0, 1) := by decide +kernel
theorem ddM_goHome_1 : decode cM_goHome 1 = .ok (.getfield 31, 3) := by decide +kernel
theorem ddM_goHome_4 : decode cM_goHome 4 = .ok (.iload_n 1, 1) := by decide +kernel
theorem ddM_goHome_5 : decode cM_goHome 5 = .ok (.iload_n 2, 1) := by decide +kernel
theorem ddM_goHome_6 : decode cM_goHome 6 = .ok (.invokestatic 238, 3) := by decide +kernel
theorem ddM_goHome_9 : decode cM_goHome 9 = .ok (.iaload, 1) := by decide +kernel
theorem ddM_goHome_10 : decode cM_goHome 10 = .ok (.istore_n 3, 1) := by decide +kernel
theorem ddM_goHome_11 : decode cM_goHome 11 = .ok (.aload_n 0, 1) := by decide +kernel
theorem ddM_goHome_12 : decode cM_goHome 12 = .ok (.iload_n 1, 1) := by decide +kernel
theorem ddM_goHome_13 : decode cM_goHome 13 = .ok (.iload_n 2, 1) := by decide +kernel
theorem ddM_goHome_14 : decode cM_goHome 14 = .ok (.invokestatic 238, 3) := by decide +kernel
theorem ddM_goHome_17 : decode cM_goHome 17 = .ok (.iload_n 2, 1) := by decide +kernel
theorem ddM_goHome_18 : decode cM_goHome 18 = .ok (.iconst 2, 1) := by decide +kernel
theorem ddM_goHome_19 : decode cM_goHome 19 = .ok (.invokestatic 173, 3) := by decide +kernel
theorem ddM_goHome_22 : decode cM_goHome 22 = .ok (.invokevirtual 211, 3) := by decide +kernel
theorem ddM_goHome_25 : decode cM_goHome 25 = .ok (.iload_n 3, 1) := by decide +kernel
theorem ddM_goHome_26 : decode cM_goHome 26 = .ok (.ifCond .le 26, 3) := by decide +kernel
theorem ddM_goHome_29 : decode cM_goHome 29 = .ok (.aload_n 0, 1) := by decide +kernel
theorem ddM_goHome_30 : decode cM_goHome 30 = .ok (.iload_n 2, 1) := by decide +kernel
theorem ddM_goHome_31 : decode cM_goHome 31 = .ok (.iconst 0, 1) := by decide +kernel
theorem ddM_goHome_32 : decode cM_goHome 32 = .ok (.invokevirtual 170, 3) := by decide +kernel
theorem ddM_goHome_35 : decode cM_goHome 35 = .ok (.iconst 3, 1) := by decide +kernel
theorem ddM_goHome_36 : decode cM_goHome 36 = .ok (.if_icmp .ne 16, 3) := by decide +kernel
theorem ddM_goHome_39 : decode cM_goHome 39 = .ok (.aload_n 0, 1) := by decide +kernel
theorem ddM_goHome_40 : decode cM_goHome 40 = .ok (.iload_n 2, 1) := by decide +kernel
theorem ddM_goHome_41 : decode cM_goHome 41 = .ok (.invokevirtual 201, 3) := by decide +kernel
theorem ddM_goHome_44 : decode cM_goHome 44 = .ok (.ifCond .ne 8, 3) := by decide +kernel
theorem ddM_goHome_47 : decode cM_goHome 47 = .ok (.aload_n 0, 1) := by decide +kernel
theorem ddM_goHome_48 : decode cM_goHome 48 = .ok (.iload_n 2, 1) := by decide +kernel
theorem ddM_goHome_49 : decode cM_goHome 49 = .ok (.invokevirtual 204, 3) := by decide +kernel
theorem ddM_goHome_52 : decode cM_goHome 52 = .ok (.iload_n 3, 1) := by decide +kernel
theorem ddM_goHome_53 : decode cM_goHome 53 = .ok (.ireturn, 1) := by decide +kernel
set_option maxHeartbeats 2000000 in
theorem zBM_goHome_52 {G : GXM} {X : CxM} (hG : GokM G) (C : CoM G X cM_goHome "HomeFreedModel") (N : mLM X = 4) {d : Nat} (hD : dpM X = d) (hd : 4 ≤ d)  {q : Int32 × Mem} (E : EnM G X (some .int) (some (.int q.1)) q.2 0 0) {v3 : Int32} {M : Mem} (h : BM_goHome_52 v3 M = some q) : ZM G X 52 [(3, .int v3)] [] M 0 0 := by
  unfold BM_goHome_52 at h
  refine zz_iload_n C 0 ddM_goHome_52 rfl rfl ?_
  obtain rfl := Option.some.inj h
  exact zz_iret C E ddM_goHome_53
set_option maxHeartbeats 2000000 in
theorem xM_goHome {G : GXM} {l : Launch} (hG : GokM G) (d : Nat) (hd : 4 ≤ d) {v0 : Nat} {v1 : Int32} {v2 : Int32} {M : Mem} {q : Int32 × Mem} (h : fM_goHome v0 v1 v2 M = some q) : ExM G l d 0 0 yM_goHome cM_goHome 4 (some .int) [.ref v0, .int v1, .int v2] M (some (.int q.1)) q.2 := by
  refine ex_of hG (by decide +kernel) (Nat.le_of_ble_eq_true rfl) ?_
  intro X hl C E N hD hn
  show ZM G X 0 [(0, .ref v0), (1, .int v1), (2, .int v2)] [] M 0 0
  unfold fM_goHome at h
  refine zz_aload_n C 0 ddM_goHome_0 rfl rfl ?_
  obtain ⟨h1, h⟩ := gdN h
  obtain ⟨h2, h⟩ := gdN h
  refine zz_getr C ddM_goHome_1 fl_M_31 rfl h1 (of_decide_eq_true h2) ?_
  refine zz_iload_n C 1 ddM_goHome_4 rfl rfl ?_
  refine zz_iload_n C 2 ddM_goHome_5 rfl rfl ?_
  obtain ⟨q3, hq3, h⟩ := bindN h
  refine zz_callS0 (As := [.int v1, .int v2]) C ddM_goHome_6 wd_1425 my_M_boxAt mv_M_boxAt (xM_boxAt hG (d - 1) (by omega) hq3) (by omega) rfl rfl (Nat.le_of_ble_eq_true rfl) ?_
  obtain ⟨h4, h⟩ := gdN h
  refine zz_iaload C ddM_goHome_9 h4 ?_
  refine zz_istore_n (L1 := [(3, .int (giM q3.2 (grM M v0 15) (Int32.toNatClampNeg q3.1))), (0, .ref v0), (1, .int v1), (2, .int v2)]) C ddM_goHome_10 rfl N (by decide) rfl ?_
  refine zz_aload_n C 1 ddM_goHome_11 rfl rfl ?_
  refine zz_iload_n C 2 ddM_goHome_12 rfl rfl ?_
  refine zz_iload_n C 3 ddM_goHome_13 rfl rfl ?_
  obtain ⟨q5, hq5, h⟩ := bindN h
  refine zz_callS0 (As := [.int v1, .int v2]) C ddM_goHome_14 wd_1425 my_M_boxAt mv_M_boxAt (xM_boxAt hG (d - 1) (by omega) hq5) (by omega) rfl rfl (Nat.le_of_ble_eq_true rfl) ?_
  refine zz_iload_n C 3 ddM_goHome_17 rfl rfl ?_
  refine zz_iconst (v := 2) C ddM_goHome_18 (by decide) ?_
  obtain ⟨q6, hq6, h⟩ := bindN h
  refine zz_callS0 (As := [.int v2, .int 2]) C ddM_goHome_19 wd_1398 my_M_listAt mv_M_listAt (xM_listAt hG (d - 1) (by omega) hq6) (by omega) rfl rfl (Nat.le_of_ble_eq_true rfl) ?_
  obtain ⟨h8, h⟩ := gdN h
  obtain ⟨q7, hq7, h⟩ := bindN h
  refine zz_callV0 (As := [.int q5.1, .int q6.1]) C ddM_goHome_22 wd_1495 my_M_moveAhead mv_M_moveAhead ⟨_, rfl, rfl⟩ (xM_moveAhead hG (d - 1) (by omega) hq7) (by omega) h8 rfl rfl (Nat.le_of_ble_eq_true rfl) ?_
  refine zz_iload_n C 0 ddM_goHome_25 rfl rfl ?_
  refine zz_if_le (tgt := 52) C ddM_goHome_26 rfl (fun hc => ?_) (fun hc => ?_)
  · replace h := iteT h hc
    refine zz_loc (L1 := [(3, .int (giM q3.2 (grM M v0 15) (Int32.toNatClampNeg q3.1)))]) [0] rfl ?_
    exact zBM_goHome_52 hG C N hD hd E h
  · replace h := iteF h hc
    refine zz_aload_n C 1 ddM_goHome_29 rfl rfl ?_
    refine zz_iload_n C 3 ddM_goHome_30 rfl rfl ?_
    refine zz_iconst (v := 0) C ddM_goHome_31 (by decide) ?_
    obtain ⟨h10, h⟩ := gdN h
    obtain ⟨q9, hq9, h⟩ := bindN h
    refine zz_callV0 (As := [.int v2, .int 0]) C ddM_goHome_32 wd_1378 my_M_of mv_M_of ⟨_, rfl, rfl⟩ (xM_of hG (d - 1) (by omega) hq9) (by omega) h10 rfl rfl (Nat.le_of_ble_eq_true rfl) ?_
    refine zz_iconst (v := 3) C ddM_goHome_35 (by decide) ?_
    refine zz_icmp_ne (tgt := 52) C ddM_goHome_36 rfl (fun hc => ?_) (fun hc => ?_)
    · replace h := iteF h hc
      refine zz_loc (L1 := [(3, .int (giM q3.2 (grM M v0 15) (Int32.toNatClampNeg q3.1)))]) [0] rfl ?_
      exact zBM_goHome_52 hG C N hD hd E h
    · replace h := iteT h hc
      refine zz_aload_n C 1 ddM_goHome_39 rfl rfl ?_
      refine zz_iload_n C 3 ddM_goHome_40 rfl rfl ?_
      obtain ⟨h12, h⟩ := gdN h
      obtain ⟨q11, hq11, h⟩ := bindN h
      refine zz_callV0 (As := [.int v2]) C ddM_goHome_41 wd_1386 my_M_usedOf mv_M_usedOf ⟨_, rfl, rfl⟩ (xM_usedOf hG (d - 1) (by omega) hq11) (by omega) h12 rfl rfl (Nat.le_of_ble_eq_true rfl) ?_
      refine zz_if_ne (tgt := 52) C ddM_goHome_44 rfl (fun hc => ?_) (fun hc => ?_)
      · replace h := iteF h hc
        refine zz_loc (L1 := [(3, .int (giM q3.2 (grM M v0 15) (Int32.toNatClampNeg q3.1)))]) [0] rfl ?_
        exact zBM_goHome_52 hG C N hD hd E h
      · replace h := iteT h hc
        refine zz_aload_n C 1 ddM_goHome_47 rfl rfl ?_
        refine zz_iload_n C 3 ddM_goHome_48 rfl rfl ?_
        obtain ⟨h14, h⟩ := gdN h
        obtain ⟨q13, hq13, h⟩ := bindN h
        refine zz_callV0 (As := [.int v2]) C ddM_goHome_49 wd_1539 my_M_makeEmpty mv_M_makeEmpty ⟨_, rfl, rfl⟩ (xM_makeEmpty hG (d - 1) (by omega) hq13) (by omega) h14 rfl rfl (Nat.le_of_ble_eq_true rfl) ?_
        refine zz_loc (L1 := [(3, .int (giM q3.2 (grM M v0 15) (Int32.toNatClampNeg q3.1)))]) [0] rfl ?_
        exact zBM_goHome_52 hG C N hD hd E h
theorem ddM_sendNow_0 : decode cM_sendNow 0 = .ok (.iconst 0, 1) := by decide +kernel
theorem ddM_sendNow_1 : decode cM_sendNow 1 = .ok (.istore_n 2, 1) := by decide +kernel
theorem ddM_sendNow_2 : decode cM_sendNow 2 = .ok (.iconst 0, 1) := by decide +kernel
theorem ddM_sendNow_3 : decode cM_sendNow 3 = .ok (.istore_n 3, 1) := by decide +kernel
theorem ddM_sendNow_4 : decode cM_sendNow 4 = .ok (.iload_n 3, 1) := by decide +kernel
theorem ddM_sendNow_5 : decode cM_sendNow 5 = .ok (.aload_n 0, 1) := by decide +kernel
theorem ddM_sendNow_6 : decode cM_sendNow 6 = .ok (.getfield 19, 3) := by decide +kernel
theorem ddM_sendNow_9 : decode cM_sendNow 9 = .ok (.iconst 1, 1) := by decide +kernel
theorem ddM_sendNow_10 : decode cM_sendNow 10 = .ok (.iaload, 1) := by decide +kernel
theorem ddM_sendNow_11 : decode cM_sendNow 11 = .ok (.if_icmp .ge 18, 3) := by decide +kernel
theorem ddM_sendNow_14 : decode cM_sendNow 14 = .ok (.iload_n 2, 1) := by decide +kernel
theorem ddM_sendNow_15 : decode cM_sendNow 15 = .ok (.aload_n 0, 1) := by decide +kernel
theorem ddM_sendNow_16 : decode cM_sendNow 16 = .ok (.iload_n 1, 1) := by decide +kernel
theorem ddM_sendNow_17 : decode cM_sendNow 17 = .ok (.iload_n 3, 1) := by decide +kernel
theorem ddM_sendNow_18 : decode cM_sendNow 18 = .ok (.invokevirtual 247, 3) := by decide +kernel
theorem ddM_sendNow_21 : decode cM_sendNow 21 = .ok (.iadd, 1) := by decide +kernel
theorem ddM_sendNow_22 : decode cM_sendNow 22 = .ok (.istore_n 2, 1) := by decide +kernel
theorem ddM_sendNow_23 : decode cM_sendNow 23 = .ok (.iinc 3 1, 3) := by decide +kernel
theorem ddM_sendNow_26 : decode cM_sendNow 26 = .ok (.goto (-22), 3) := by decide +kernel
theorem ddM_sendNow_29 : decode cM_sendNow 29 = .ok (.iload_n 2, 1) := by decide +kernel
theorem ddM_sendNow_30 : decode cM_sendNow 30 = .ok (.ireturn, 1) := by decide +kernel
set_option maxHeartbeats 2000000 in
theorem zBM_sendNow_4 {G : GXM} {X : CxM} (hG : GokM G) (C : CoM G X cM_sendNow "HomeFreedModel") (N : mLM X = 4) {d : Nat} (hD : dpM X = d) (hd : 5 ≤ d) {v0 : Nat} {v1 : Int32} {K : Nat → Int32 → Int32 → Int32 → Mem → Option ((Int32 × Mem))} {q : (Int32 × Mem)} (hK : ∀ (v2 : Int32) (v3 : Int32) (M : Mem), K v0 v1 v2 v3 M = some q → ZM G X 4 [(0, .ref v0), (1, .int v1), (2, .int v2), (3, .int v3)] [] M 0 0) (hr : ∀ r : Int32 × Mem, q =  r → EnM G X (some .int) (some (.int r.1)) r.2 0 0) {v2 : Int32} {v3 : Int32} {M : Mem} (h : BM_sendNow_4 K v0 v1 v2 v3 M = some q) : ZM G X 4 [(0, .ref v0), (1, .int v1), (2, .int v2), (3, .int v3)] [] M 0 0 := by
  unfold BM_sendNow_4 at h
  refine zz_iload_n C 3 ddM_sendNow_4 rfl rfl ?_
  refine zz_aload_n C 0 ddM_sendNow_5 rfl rfl ?_
  obtain ⟨h1, h⟩ := gdN h
  obtain ⟨h2, h⟩ := gdN h
  refine zz_getr C ddM_sendNow_6 fl_M_19 rfl h1 (of_decide_eq_true h2) ?_
  refine zz_iconst (v := 1) C ddM_sendNow_9 (by decide) ?_
  obtain ⟨h3, h⟩ := gdN h
  refine zz_iaload C ddM_sendNow_10 h3 ?_
  refine zz_icmp_ge (tgt := 29) C ddM_sendNow_11 rfl (fun hc => ?_) (fun hc => ?_)
  · replace h := iteT h hc
    refine zz_iload_n C 2 ddM_sendNow_29 rfl rfl ?_
    exact zz_iret C (hr _ (Option.some.inj h).symm) ddM_sendNow_30
  · replace h := iteF h hc
    refine zz_iload_n C 2 ddM_sendNow_14 rfl rfl ?_
    refine zz_aload_n C 0 ddM_sendNow_15 rfl rfl ?_
    refine zz_iload_n C 1 ddM_sendNow_16 rfl rfl ?_
    refine zz_iload_n C 3 ddM_sendNow_17 rfl rfl ?_
    obtain ⟨q4, hq4, h⟩ := bindN h
    refine zz_callV0 (As := [.int v1, .int v3]) C ddM_sendNow_18 wd_1535 my_M_goHome mv_M_goHome ⟨_, rfl, rfl⟩ (xM_goHome hG (d - 1) (by omega) hq4) (by omega) h1 rfl rfl (Nat.le_of_ble_eq_true rfl) ?_
    refine zz_iadd C ddM_sendNow_21 ?_
    refine zz_istore_n (L1 := [(2, .int (v2 + q4.1)), (0, .ref v0), (1, .int v1), (3, .int v3)]) C ddM_sendNow_22 rfl N (by decide) rfl ?_
    refine zz_iinc (v := v3 + 1) (L1 := [(3, .int (v3 + 1)), (2, .int (v2 + q4.1)), (0, .ref v0), (1, .int v1)]) C 3 ddM_sendNow_23 rfl rfl N (by decide) rfl ?_
    refine zz_goto (tgt := 4) C ddM_sendNow_26 rfl ?_
    refine zz_loc (L1 := [(0, .ref v0), (1, .int v1), (2, .int (v2 + q4.1)), (3, .int (v3 + 1))]) [2, 3, 1, 0] rfl ?_
    exact hK _ _ _ h
set_option maxHeartbeats 2000000 in
theorem zLM_sendNow_4 {G : GXM} {X : CxM} (hG : GokM G) (C : CoM G X cM_sendNow "HomeFreedModel") (N : mLM X = 4) {d : Nat} (hD : dpM X = d) (hd : 5 ≤ d) {v0 : Nat} {v1 : Int32} {q : (Int32 × Mem)} : ∀ (f : Nat) (v2 : Int32) (v3 : Int32) (M : Mem), LM_sendNow_4 f v0 v1 v2 v3 M = some q → (hr : ∀ r : Int32 × Mem, q =  r → EnM G X (some .int) (some (.int r.1)) r.2 0 0) → ZM G X 4 [(0, .ref v0), (1, .int v1), (2, .int v2), (3, .int v3)] [] M 0 0 := by
  intro f
  induction f with
  | zero => intro v2 v3 M h; cases h
  | succ f ih =>
    intro v2 v3 M h hr
    exact zBM_sendNow_4 hG C N hD hd (K := LM_sendNow_4 f) (q := q) (fun v2 v3 M h => ih v2 v3 M h hr) hr h
set_option maxHeartbeats 2000000 in
theorem xM_sendNow {G : GXM} {l : Launch} (hG : GokM G) (d : Nat) (hd : 5 ≤ d) {v0 : Nat} {v1 : Int32} {M : Mem} {q : Int32 × Mem} (h : fM_sendNow v0 v1 M = some q) : ExM G l d 0 0 yM_sendNow cM_sendNow 4 (some .int) [.ref v0, .int v1] M (some (.int q.1)) q.2 := by
  refine ex_of hG (by decide +kernel) (Nat.le_of_ble_eq_true rfl) ?_
  intro X hl C E N hD hn
  show ZM G X 0 [(0, .ref v0), (1, .int v1)] [] M 0 0
  unfold fM_sendNow at h
  refine zz_iconst (v := 0) C ddM_sendNow_0 (by decide) ?_
  refine zz_istore_n (L1 := [(2, .int 0), (0, .ref v0), (1, .int v1)]) C ddM_sendNow_1 rfl N (by decide) rfl ?_
  refine zz_iconst (v := 0) C ddM_sendNow_2 (by decide) ?_
  refine zz_istore_n (L1 := [(3, .int 0), (2, .int 0), (0, .ref v0), (1, .int v1)]) C ddM_sendNow_3 rfl N (by decide) rfl ?_
  refine zz_loc (L1 := [(0, .ref v0), (1, .int v1), (2, .int 0), (3, .int 0)]) [2, 3, 1, 0] rfl ?_
  obtain ⟨q1, hq1, h⟩ := bindN h
  refine zLM_sendNow_4 hG C N hD hd 1000000 _ _ _ hq1 ?_
  · intro r2 eq1; replace eq1 := eq1.symm; subst eq1
    obtain rfl := Option.some.inj h
    exact E
theorem ddM_giveBack_0 : decode cM_giveBack 0 = .ok (.aload_n 0, 1) := by decide +kernel
theorem ddM_giveBack_1 : decode cM_giveBack 1 = .ok (.iload_n 1, 1) := by decide +kernel
theorem ddM_giveBack_2 : decode cM_giveBack 2 = .ok (.iconst 0, 1) := by decide +kernel
theorem ddM_giveBack_3 : decode cM_giveBack 3 = .ok (.invokevirtual 170, 3) := by decide +kernel
theorem ddM_giveBack_6 : decode cM_giveBack 6 = .ok (.iconst 1, 1) := by decide +kernel
theorem ddM_giveBack_7 : decode cM_giveBack 7 = .ok (.if_icmp .ne 30, 3) := by decide +kernel
theorem ddM_giveBack_10 : decode cM_giveBack 10 = .ok (.aload_n 0, 1) := by decide +kernel
theorem ddM_giveBack_11 : decode cM_giveBack 11 = .ok (.iload_n 1, 1) := by decide +kernel
theorem ddM_giveBack_12 : decode cM_giveBack 12 = .ok (.invokevirtual 201, 3) := by decide +kernel
theorem ddM_giveBack_15 : decode cM_giveBack 15 = .ok (.ifCond .ne 22, 3) := by decide +kernel
theorem ddM_giveBack_18 : decode cM_giveBack 18 = .ok (.aload_n 0, 1) := by decide +kernel
theorem ddM_giveBack_19 : decode cM_giveBack 19 = .ok (.getfield 31, 3) := by decide +kernel
theorem ddM_giveBack_22 : decode cM_giveBack 22 = .ok (.aload_n 0, 1) := by decide +kernel
theorem ddM_giveBack_23 : decode cM_giveBack 23 = .ok (.iload_n 1, 1) := by decide +kernel
theorem ddM_giveBack_24 : decode cM_giveBack 24 = .ok (.invokevirtual 189, 3) := by decide +kernel
theorem ddM_giveBack_27 : decode cM_giveBack 27 = .ok (.iaload, 1) := by decide +kernel
theorem ddM_giveBack_28 : decode cM_giveBack 28 = .ok (.iconst 1, 1) := by decide +kernel
theorem ddM_giveBack_29 : decode cM_giveBack 29 = .ok (.if_icmp .le 8, 3) := by decide +kernel
theorem ddM_giveBack_32 : decode cM_giveBack 32 = .ok (.aload_n 0, 1) := by decide +kernel
theorem ddM_giveBack_33 : decode cM_giveBack 33 = .ok (.iload_n 1, 1) := by decide +kernel
theorem ddM_giveBack_34 : decode cM_giveBack 34 = .ok (.invokevirtual 204, 3) := by decide +kernel
theorem ddM_giveBack_37 : decode cM_giveBack 37 = .ok (.return_, 1) := by decide +kernel
set_option maxHeartbeats 2000000 in
theorem zBM_giveBack_37 {G : GXM} {X : CxM} (hG : GokM G) (C : CoM G X cM_giveBack "HomeFreedModel") (N : mLM X = 2) {d : Nat} (hD : dpM X = d) (hd : 4 ≤ d)  {q : Mem} (E : EnM G X none none q 0 0) {M : Mem} (h : BM_giveBack_37 M = some q) : ZM G X 37 [] [] M 0 0 := by
  unfold BM_giveBack_37 at h
  obtain rfl := Option.some.inj h
  exact zz_vret C E ddM_giveBack_37
set_option maxHeartbeats 2000000 in
theorem xM_giveBack {G : GXM} {l : Launch} (hG : GokM G) (d : Nat) (hd : 4 ≤ d) {v0 : Nat} {v1 : Int32} {M : Mem} {q : Mem} (h : fM_giveBack v0 v1 M = some q) : ExM G l d 0 0 yM_giveBack cM_giveBack 2 none [.ref v0, .int v1] M none q := by
  refine ex_of hG (by decide +kernel) (Nat.le_of_ble_eq_true rfl) ?_
  intro X hl C E N hD hn
  show ZM G X 0 [(0, .ref v0), (1, .int v1)] [] M 0 0
  unfold fM_giveBack at h
  refine zz_aload_n C 0 ddM_giveBack_0 rfl rfl ?_
  refine zz_iload_n C 1 ddM_giveBack_1 rfl rfl ?_
  refine zz_iconst (v := 0) C ddM_giveBack_2 (by decide) ?_
  obtain ⟨h2, h⟩ := gdN h
  obtain ⟨q1, hq1, h⟩ := bindN h
  refine zz_callV0 (As := [.int v1, .int 0]) C ddM_giveBack_3 wd_1378 my_M_of mv_M_of ⟨_, rfl, rfl⟩ (xM_of hG (d - 1) (by omega) hq1) (by omega) h2 rfl rfl (Nat.le_of_ble_eq_true rfl) ?_
  refine zz_iconst (v := 1) C ddM_giveBack_6 (by decide) ?_
  refine zz_icmp_ne (tgt := 37) C ddM_giveBack_7 rfl (fun hc => ?_) (fun hc => ?_)
  · replace h := iteF h hc
    refine zz_loc (L1 := []) [] rfl ?_
    exact zBM_giveBack_37 hG C N hD hd E h
  · replace h := iteT h hc
    refine zz_aload_n C 0 ddM_giveBack_10 rfl rfl ?_
    refine zz_iload_n C 1 ddM_giveBack_11 rfl rfl ?_
    obtain ⟨h4, h⟩ := gdN h
    obtain ⟨q3, hq3, h⟩ := bindN h
    refine zz_callV0 (As := [.int v1]) C ddM_giveBack_12 wd_1386 my_M_usedOf mv_M_usedOf ⟨_, rfl, rfl⟩ (xM_usedOf hG (d - 1) (by omega) hq3) (by omega) h4 rfl rfl (Nat.le_of_ble_eq_true rfl) ?_
    refine zz_if_ne (tgt := 37) C ddM_giveBack_15 rfl (fun hc => ?_) (fun hc => ?_)
    · replace h := iteF h hc
      refine zz_loc (L1 := []) [] rfl ?_
      exact zBM_giveBack_37 hG C N hD hd E h
    · replace h := iteT h hc
      refine zz_aload_n C 0 ddM_giveBack_18 rfl rfl ?_
      obtain ⟨h5, h⟩ := gdN h
      obtain ⟨h6, h⟩ := gdN h
      refine zz_getr C ddM_giveBack_19 fl_M_31 rfl h5 (of_decide_eq_true h6) ?_
      refine zz_aload_n C 0 ddM_giveBack_22 rfl rfl ?_
      refine zz_iload_n C 1 ddM_giveBack_23 rfl rfl ?_
      obtain ⟨q7, hq7, h⟩ := bindN h
      refine zz_callV0 (As := [.int v1]) C ddM_giveBack_24 wd_1523 my_M_ownQueue mv_M_ownQueue ⟨_, rfl, rfl⟩ (xM_ownQueue hG (d - 1) (by omega) hq7) (by omega) h5 rfl rfl (Nat.le_of_ble_eq_true rfl) ?_
      obtain ⟨h8, h⟩ := gdN h
      refine zz_iaload C ddM_giveBack_27 h8 ?_
      refine zz_iconst (v := 1) C ddM_giveBack_28 (by decide) ?_
      refine zz_icmp_le (tgt := 37) C ddM_giveBack_29 rfl (fun hc => ?_) (fun hc => ?_)
      · replace h := iteT h hc
        refine zz_loc (L1 := []) [] rfl ?_
        exact zBM_giveBack_37 hG C N hD hd E h
      · replace h := iteF h hc
        refine zz_aload_n C 0 ddM_giveBack_32 rfl rfl ?_
        refine zz_iload_n C 1 ddM_giveBack_33 rfl rfl ?_
        obtain ⟨h10, h⟩ := gdN h
        obtain ⟨q9, hq9, h⟩ := bindN h
        refine zz_callV0 (As := [.int v1]) C ddM_giveBack_34 wd_1539 my_M_makeEmpty mv_M_makeEmpty ⟨_, rfl, rfl⟩ (xM_makeEmpty hG (d - 1) (by omega) hq9) (by omega) h10 rfl rfl (Nat.le_of_ble_eq_true rfl) ?_
        refine zz_loc (L1 := []) [] rfl ?_
        exact zBM_giveBack_37 hG C N hD hd E h
theorem ddM_tickNow_0 : decode cM_tickNow 0 = .ok (.aload_n 0, 1) := by decide +kernel
theorem ddM_tickNow_1 : decode cM_tickNow 1 = .ok (.iload_n 1, 1) := by decide +kernel
theorem ddM_tickNow_2 : decode cM_tickNow 2 = .ok (.invokevirtual 250, 3) := by decide +kernel
theorem ddM_tickNow_5 : decode cM_tickNow 5 = .ok (.pop, 1) := by decide +kernel
theorem ddM_tickNow_6 : decode cM_tickNow 6 = .ok (.iconst 0, 1) := by decide +kernel
theorem ddM_tickNow_7 : decode cM_tickNow 7 = .ok (.istore_n 2, 1) := by decide +kernel
theorem ddM_tickNow_8 : decode cM_tickNow 8 = .ok (.iload_n 2, 1) := by decide +kernel
theorem ddM_tickNow_9 : decode cM_tickNow 9 = .ok (.aload_n 0, 1) := by decide +kernel
theorem ddM_tickNow_10 : decode cM_tickNow 10 = .ok (.getfield 19, 3) := by decide +kernel
theorem ddM_tickNow_13 : decode cM_tickNow 13 = .ok (.iconst 1, 1) := by decide +kernel
theorem ddM_tickNow_14 : decode cM_tickNow 14 = .ok (.iaload, 1) := by decide +kernel
theorem ddM_tickNow_15 : decode cM_tickNow 15 = .ok (.if_icmp .ge 41, 3) := by decide +kernel
theorem ddM_tickNow_18 : decode cM_tickNow 18 = .ok (.aload_n 0, 1) := by decide +kernel
theorem ddM_tickNow_19 : decode cM_tickNow 19 = .ok (.iload_n 2, 1) := by decide +kernel
theorem ddM_tickNow_20 : decode cM_tickNow 20 = .ok (.iload_n 1, 1) := by decide +kernel
theorem ddM_tickNow_21 : decode cM_tickNow 21 = .ok (.invokevirtual 253, 3) := by decide +kernel
theorem ddM_tickNow_24 : decode cM_tickNow 24 = .ok (.ifCond .eq 26, 3) := by decide +kernel
theorem ddM_tickNow_27 : decode cM_tickNow 27 = .ok (.aload_n 0, 1) := by decide +kernel
theorem ddM_tickNow_28 : decode cM_tickNow 28 = .ok (.iload_n 2, 1) := by decide +kernel
theorem ddM_tickNow_29 : decode cM_tickNow 29 = .ok (.iconst 0, 1) := by decide +kernel
theorem ddM_tickNow_30 : decode cM_tickNow 30 = .ok (.invokevirtual 170, 3) := by decide +kernel
theorem ddM_tickNow_33 : decode cM_tickNow 33 = .ok (.iconst 2, 1) := by decide +kernel
theorem ddM_tickNow_34 : decode cM_tickNow 34 = .ok (.if_icmp .ne 16, 3) := by decide +kernel
theorem ddM_tickNow_37 : decode cM_tickNow 37 = .ok (.aload_n 0, 1) := by decide +kernel
theorem ddM_tickNow_38 : decode cM_tickNow 38 = .ok (.iload_n 2, 1) := by decide +kernel
theorem ddM_tickNow_39 : decode cM_tickNow 39 = .ok (.invokevirtual 179, 3) := by decide +kernel
theorem ddM_tickNow_42 : decode cM_tickNow 42 = .ok (.ifCond .le 8, 3) := by decide +kernel
theorem ddM_tickNow_45 : decode cM_tickNow 45 = .ok (.aload_n 0, 1) := by decide +kernel
theorem ddM_tickNow_46 : decode cM_tickNow 46 = .ok (.iload_n 2, 1) := by decide +kernel
theorem ddM_tickNow_47 : decode cM_tickNow 47 = .ok (.invokevirtual 226, 3) := by decide +kernel
theorem ddM_tickNow_50 : decode cM_tickNow 50 = .ok (.iinc 2 1, 3) := by decide +kernel
theorem ddM_tickNow_53 : decode cM_tickNow 53 = .ok (.goto (-45), 3) := by decide +kernel
theorem ddM_tickNow_56 : decode cM_tickNow 56 = .ok (.iconst 0, 1) := by decide +kernel
theorem ddM_tickNow_57 : decode cM_tickNow 57 = .ok (.istore_n 2, 1) := by decide +kernel
theorem ddM_tickNow_58 : decode cM_tickNow 58 = .ok (.iload_n 2, 1) := by decide +kernel
theorem ddM_tickNow_59 : decode cM_tickNow 59 = .ok (.aload_n 0, 1) := by decide +kernel
theorem ddM_tickNow_60 : decode cM_tickNow 60 = .ok (.getfield 19, 3) := by decide +kernel
theorem ddM_tickNow_63 : decode cM_tickNow 63 = .ok (.iconst 1, 1) := by decide +kernel
theorem ddM_tickNow_64 : decode cM_tickNow 64 = .ok (.iaload, 1) := by decide +kernel
theorem ddM_tickNow_65 : decode cM_tickNow 65 = .ok (.if_icmp .ge 23, 3) := by decide +kernel
theorem ddM_tickNow_68 : decode cM_tickNow 68 = .ok (.aload_n 0, 1) := by decide +kernel
theorem ddM_tickNow_69 : decode cM_tickNow 69 = .ok (.iload_n 2, 1) := by decide +kernel
theorem ddM_tickNow_70 : decode cM_tickNow 70 = .ok (.iload_n 1, 1) := by decide +kernel
theorem ddM_tickNow_71 : decode cM_tickNow 71 = .ok (.invokevirtual 253, 3) := by decide +kernel
theorem ddM_tickNow_74 : decode cM_tickNow 74 = .ok (.ifCond .eq 8, 3) := by decide +kernel
theorem ddM_tickNow_77 : decode cM_tickNow 77 = .ok (.aload_n 0, 1) := by decide +kernel
theorem ddM_tickNow_78 : decode cM_tickNow 78 = .ok (.iload_n 2, 1) := by decide +kernel
theorem ddM_tickNow_79 : decode cM_tickNow 79 = .ok (.invokevirtual 244, 3) := by decide +kernel
theorem ddM_tickNow_82 : decode cM_tickNow 82 = .ok (.iinc 2 1, 3) := by decide +kernel
theorem ddM_tickNow_85 : decode cM_tickNow 85 = .ok (.goto (-27), 3) := by decide +kernel
theorem ddM_tickNow_88 : decode cM_tickNow 88 = .ok (.return_, 1) := by decide +kernel
set_option maxHeartbeats 2000000 in
theorem zBM_tickNow_82 {G : GXM} {X : CxM} (hG : GokM G) (C : CoM G X cM_tickNow "HomeFreedModel") (N : mLM X = 3) {d : Nat} (hD : dpM X = d) (hd : 6 ≤ d) {v0 : Nat} {v1 : Int32} {K : Nat → Int32 → Int32 → Mem → Option ((Mem))} {q : (Mem)} (hK : ∀ (v2 : Int32) (M : Mem), K v0 v1 v2 M = some q → ZM G X 58 [(0, .ref v0), (1, .int v1), (2, .int v2)] [] M 0 0) (hr : ∀ r : Mem, q =  r → EnM G X none none r 0 0) {v2 : Int32} {M : Mem} (h : BM_tickNow_82 K v0 v1 v2 M = some q) : ZM G X 82 [(0, .ref v0), (1, .int v1), (2, .int v2)] [] M 0 0 := by
  unfold BM_tickNow_82 at h
  refine zz_iinc (v := v2 + 1) (L1 := [(2, .int (v2 + 1)), (0, .ref v0), (1, .int v1)]) C 2 ddM_tickNow_82 rfl rfl N (by decide) rfl ?_
  refine zz_goto (tgt := 58) C ddM_tickNow_85 rfl ?_
  refine zz_loc (L1 := [(0, .ref v0), (1, .int v1), (2, .int (v2 + 1))]) [1, 2, 0] rfl ?_
  exact hK _ _ h
set_option maxHeartbeats 2000000 in
theorem zBM_tickNow_58 {G : GXM} {X : CxM} (hG : GokM G) (C : CoM G X cM_tickNow "HomeFreedModel") (N : mLM X = 3) {d : Nat} (hD : dpM X = d) (hd : 6 ≤ d) {v0 : Nat} {v1 : Int32} {K : Nat → Int32 → Int32 → Mem → Option ((Mem))} {q : (Mem)} (hK : ∀ (v2 : Int32) (M : Mem), K v0 v1 v2 M = some q → ZM G X 58 [(0, .ref v0), (1, .int v1), (2, .int v2)] [] M 0 0) (hr : ∀ r : Mem, q =  r → EnM G X none none r 0 0) {v2 : Int32} {M : Mem} (h : BM_tickNow_58 K v0 v1 v2 M = some q) : ZM G X 58 [(0, .ref v0), (1, .int v1), (2, .int v2)] [] M 0 0 := by
  unfold BM_tickNow_58 at h
  refine zz_iload_n C 2 ddM_tickNow_58 rfl rfl ?_
  refine zz_aload_n C 0 ddM_tickNow_59 rfl rfl ?_
  obtain ⟨h1, h⟩ := gdN h
  obtain ⟨h2, h⟩ := gdN h
  refine zz_getr C ddM_tickNow_60 fl_M_19 rfl h1 (of_decide_eq_true h2) ?_
  refine zz_iconst (v := 1) C ddM_tickNow_63 (by decide) ?_
  obtain ⟨h3, h⟩ := gdN h
  refine zz_iaload C ddM_tickNow_64 h3 ?_
  refine zz_icmp_ge (tgt := 88) C ddM_tickNow_65 rfl (fun hc => ?_) (fun hc => ?_)
  · replace h := iteT h hc
    exact zz_vret C (hr _ (Option.some.inj h).symm) ddM_tickNow_88
  · replace h := iteF h hc
    refine zz_aload_n C 0 ddM_tickNow_68 rfl rfl ?_
    refine zz_iload_n C 2 ddM_tickNow_69 rfl rfl ?_
    refine zz_iload_n C 1 ddM_tickNow_70 rfl rfl ?_
    obtain ⟨q4, hq4, h⟩ := bindN h
    refine zz_callV0 (As := [.int v2, .int v1]) C ddM_tickNow_71 wd_1417 my_M_isOf mv_M_isOf ⟨_, rfl, rfl⟩ (xM_isOf hG (d - 1) (by omega) hq4) (by omega) h1 rfl rfl (Nat.le_of_ble_eq_true rfl) ?_
    refine zz_if_eq (tgt := 82) C ddM_tickNow_74 rfl (fun hc => ?_) (fun hc => ?_)
    · replace h := iteT h hc
      exact zBM_tickNow_82 hG C N hD hd hK hr h
    · replace h := iteF h hc
      refine zz_aload_n C 0 ddM_tickNow_77 rfl rfl ?_
      refine zz_iload_n C 2 ddM_tickNow_78 rfl rfl ?_
      obtain ⟨h6, h⟩ := gdN h
      obtain ⟨q5, hq5, h⟩ := bindN h
      refine zz_callV0 (As := [.int v2]) C ddM_tickNow_79 wd_1551 my_M_giveBack mv_M_giveBack ⟨_, rfl, rfl⟩ (xM_giveBack hG (d - 1) (by omega) hq5) (by omega) h6 rfl rfl (Nat.le_of_ble_eq_true rfl) ?_
      exact zBM_tickNow_82 hG C N hD hd hK hr h
set_option maxHeartbeats 2000000 in
theorem zLM_tickNow_58 {G : GXM} {X : CxM} (hG : GokM G) (C : CoM G X cM_tickNow "HomeFreedModel") (N : mLM X = 3) {d : Nat} (hD : dpM X = d) (hd : 6 ≤ d) {v0 : Nat} {v1 : Int32} {q : (Mem)} : ∀ (f : Nat) (v2 : Int32) (M : Mem), LM_tickNow_58 f v0 v1 v2 M = some q → (hr : ∀ r : Mem, q =  r → EnM G X none none r 0 0) → ZM G X 58 [(0, .ref v0), (1, .int v1), (2, .int v2)] [] M 0 0 := by
  intro f
  induction f with
  | zero => intro v2 M h; cases h
  | succ f ih =>
    intro v2 M h hr
    exact zBM_tickNow_58 hG C N hD hd (K := LM_tickNow_58 f) (q := q) (fun v2 M h => ih v2 M h hr) hr h
set_option maxHeartbeats 2000000 in
theorem zBM_tickNow_50 {G : GXM} {X : CxM} (hG : GokM G) (C : CoM G X cM_tickNow "HomeFreedModel") (N : mLM X = 3) {d : Nat} (hD : dpM X = d) (hd : 6 ≤ d) {v0 : Nat} {v1 : Int32} {K : Nat → Int32 → Int32 → Mem → Option ((Mem))} {q : (Mem)} (hK : ∀ (v2 : Int32) (M : Mem), K v0 v1 v2 M = some q → ZM G X 8 [(0, .ref v0), (1, .int v1), (2, .int v2)] [] M 0 0) (hx0 : ∀ y : Mem, q = y → ZM G X 56 [(0, .ref v0), (1, .int v1)] [] y 0 0) {v2 : Int32} {M : Mem} (h : BM_tickNow_50 K v0 v1 v2 M = some q) : ZM G X 50 [(0, .ref v0), (1, .int v1), (2, .int v2)] [] M 0 0 := by
  unfold BM_tickNow_50 at h
  refine zz_iinc (v := v2 + 1) (L1 := [(2, .int (v2 + 1)), (0, .ref v0), (1, .int v1)]) C 2 ddM_tickNow_50 rfl rfl N (by decide) rfl ?_
  refine zz_goto (tgt := 8) C ddM_tickNow_53 rfl ?_
  refine zz_loc (L1 := [(0, .ref v0), (1, .int v1), (2, .int (v2 + 1))]) [1, 2, 0] rfl ?_
  exact hK _ _ h
set_option maxHeartbeats 2000000 in
theorem zBM_tickNow_8 {G : GXM} {X : CxM} (hG : GokM G) (C : CoM G X cM_tickNow "HomeFreedModel") (N : mLM X = 3) {d : Nat} (hD : dpM X = d) (hd : 6 ≤ d) {v0 : Nat} {v1 : Int32} {K : Nat → Int32 → Int32 → Mem → Option ((Mem))} {q : (Mem)} (hK : ∀ (v2 : Int32) (M : Mem), K v0 v1 v2 M = some q → ZM G X 8 [(0, .ref v0), (1, .int v1), (2, .int v2)] [] M 0 0) (hx0 : ∀ y : Mem, q = y → ZM G X 56 [(0, .ref v0), (1, .int v1)] [] y 0 0) {v2 : Int32} {M : Mem} (h : BM_tickNow_8 K v0 v1 v2 M = some q) : ZM G X 8 [(0, .ref v0), (1, .int v1), (2, .int v2)] [] M 0 0 := by
  unfold BM_tickNow_8 at h
  refine zz_iload_n C 2 ddM_tickNow_8 rfl rfl ?_
  refine zz_aload_n C 0 ddM_tickNow_9 rfl rfl ?_
  obtain ⟨h1, h⟩ := gdN h
  obtain ⟨h2, h⟩ := gdN h
  refine zz_getr C ddM_tickNow_10 fl_M_19 rfl h1 (of_decide_eq_true h2) ?_
  refine zz_iconst (v := 1) C ddM_tickNow_13 (by decide) ?_
  obtain ⟨h3, h⟩ := gdN h
  refine zz_iaload C ddM_tickNow_14 h3 ?_
  refine zz_icmp_ge (tgt := 56) C ddM_tickNow_15 rfl (fun hc => ?_) (fun hc => ?_)
  · replace h := iteT h hc
    refine zz_loc (L1 := [(0, .ref v0), (1, .int v1)]) [0, 1] rfl ?_
    exact hx0 _ (Option.some.inj h).symm
  · replace h := iteF h hc
    refine zz_aload_n C 0 ddM_tickNow_18 rfl rfl ?_
    refine zz_iload_n C 2 ddM_tickNow_19 rfl rfl ?_
    refine zz_iload_n C 1 ddM_tickNow_20 rfl rfl ?_
    obtain ⟨q4, hq4, h⟩ := bindN h
    refine zz_callV0 (As := [.int v2, .int v1]) C ddM_tickNow_21 wd_1417 my_M_isOf mv_M_isOf ⟨_, rfl, rfl⟩ (xM_isOf hG (d - 1) (by omega) hq4) (by omega) h1 rfl rfl (Nat.le_of_ble_eq_true rfl) ?_
    refine zz_if_eq (tgt := 50) C ddM_tickNow_24 rfl (fun hc => ?_) (fun hc => ?_)
    · replace h := iteT h hc
      exact zBM_tickNow_50 hG C N hD hd hK hx0 h
    · replace h := iteF h hc
      refine zz_aload_n C 0 ddM_tickNow_27 rfl rfl ?_
      refine zz_iload_n C 2 ddM_tickNow_28 rfl rfl ?_
      refine zz_iconst (v := 0) C ddM_tickNow_29 (by decide) ?_
      obtain ⟨h6, h⟩ := gdN h
      obtain ⟨q5, hq5, h⟩ := bindN h
      refine zz_callV0 (As := [.int v2, .int 0]) C ddM_tickNow_30 wd_1378 my_M_of mv_M_of ⟨_, rfl, rfl⟩ (xM_of hG (d - 1) (by omega) hq5) (by omega) h6 rfl rfl (Nat.le_of_ble_eq_true rfl) ?_
      refine zz_iconst (v := 2) C ddM_tickNow_33 (by decide) ?_
      refine zz_icmp_ne (tgt := 50) C ddM_tickNow_34 rfl (fun hc => ?_) (fun hc => ?_)
      · replace h := iteF h hc
        exact zBM_tickNow_50 hG C N hD hd hK hx0 h
      · replace h := iteT h hc
        refine zz_aload_n C 0 ddM_tickNow_37 rfl rfl ?_
        refine zz_iload_n C 2 ddM_tickNow_38 rfl rfl ?_
        obtain ⟨h8, h⟩ := gdN h
        obtain ⟨q7, hq7, h⟩ := bindN h
        refine zz_callV0 (As := [.int v2]) C ddM_tickNow_39 wd_1394 my_M_listedOf mv_M_listedOf ⟨_, rfl, rfl⟩ (xM_listedOf hG (d - 1) (by omega) hq7) (by omega) h8 rfl rfl (Nat.le_of_ble_eq_true rfl) ?_
        refine zz_if_le (tgt := 50) C ddM_tickNow_42 rfl (fun hc => ?_) (fun hc => ?_)
        · replace h := iteT h hc
          exact zBM_tickNow_50 hG C N hD hd hK hx0 h
        · replace h := iteF h hc
          refine zz_aload_n C 0 ddM_tickNow_45 rfl rfl ?_
          refine zz_iload_n C 2 ddM_tickNow_46 rfl rfl ?_
          obtain ⟨h10, h⟩ := gdN h
          obtain ⟨q9, hq9, h⟩ := bindN h
          refine zz_callV0 (As := [.int v2]) C ddM_tickNow_47 wd_1519 my_M_enqueue mv_M_enqueue ⟨_, rfl, rfl⟩ (xM_enqueue hG (d - 1) (by omega) hq9) (by omega) h10 rfl rfl (Nat.le_of_ble_eq_true rfl) ?_
          exact zBM_tickNow_50 hG C N hD hd hK hx0 h
set_option maxHeartbeats 2000000 in
theorem zLM_tickNow_8 {G : GXM} {X : CxM} (hG : GokM G) (C : CoM G X cM_tickNow "HomeFreedModel") (N : mLM X = 3) {d : Nat} (hD : dpM X = d) (hd : 6 ≤ d) {v0 : Nat} {v1 : Int32} {q : (Mem)} : ∀ (f : Nat) (v2 : Int32) (M : Mem), LM_tickNow_8 f v0 v1 v2 M = some q → (hx0 : ∀ y : Mem, q = y → ZM G X 56 [(0, .ref v0), (1, .int v1)] [] y 0 0) → ZM G X 8 [(0, .ref v0), (1, .int v1), (2, .int v2)] [] M 0 0 := by
  intro f
  induction f with
  | zero => intro v2 M h; cases h
  | succ f ih =>
    intro v2 M h hx0
    exact zBM_tickNow_8 hG C N hD hd (K := LM_tickNow_8 f) (q := q) (fun v2 M h => ih v2 M h hx0) hx0 h
set_option maxHeartbeats 2000000 in
theorem xM_tickNow {G : GXM} {l : Launch} (hG : GokM G) (d : Nat) (hd : 6 ≤ d) {v0 : Nat} {v1 : Int32} {M : Mem} {q : Mem} (h : fM_tickNow v0 v1 M = some q) : ExM G l d 0 0 yM_tickNow cM_tickNow 3 none [.ref v0, .int v1] M none q := by
  refine ex_of hG (by decide +kernel) (Nat.le_of_ble_eq_true rfl) ?_
  intro X hl C E N hD hn
  show ZM G X 0 [(0, .ref v0), (1, .int v1)] [] M 0 0
  unfold fM_tickNow at h
  refine zz_aload_n C 0 ddM_tickNow_0 rfl rfl ?_
  refine zz_iload_n C 1 ddM_tickNow_1 rfl rfl ?_
  obtain ⟨h2, h⟩ := gdN h
  obtain ⟨q1, hq1, h⟩ := bindN h
  refine zz_callV0 (As := [.int v1]) C ddM_tickNow_2 wd_1531 my_M_sendNow mv_M_sendNow ⟨_, rfl, rfl⟩ (xM_sendNow hG (d - 1) (by omega) hq1) (by omega) h2 rfl rfl (Nat.le_of_ble_eq_true rfl) ?_
  refine zz_pop C ddM_tickNow_5 rfl ?_
  refine zz_iconst (v := 0) C ddM_tickNow_6 (by decide) ?_
  refine zz_istore_n (L1 := [(2, .int 0), (0, .ref v0), (1, .int v1)]) C ddM_tickNow_7 rfl N (by decide) rfl ?_
  refine zz_loc (L1 := [(0, .ref v0), (1, .int v1), (2, .int 0)]) [1, 2, 0] rfl ?_
  obtain ⟨q3, hq3, h⟩ := bindN h
  refine zLM_tickNow_8 hG C N hD hd 1000000 _ _ hq3 ?_
  · intro y4 eq3; replace eq3 := eq3.symm; subst eq3
    refine zz_iconst (v := 0) C ddM_tickNow_56 (by decide) ?_
    refine zz_istore_n (L1 := [(2, .int 0), (0, .ref v0), (1, .int v1)]) C ddM_tickNow_57 rfl N (by decide) rfl ?_
    refine zz_loc (L1 := [(0, .ref v0), (1, .int v1), (2, .int 0)]) [1, 2, 0] rfl ?_
    obtain ⟨q5, hq5, h⟩ := bindN h
    refine zLM_tickNow_58 hG C N hD hd 1000000 _ _ hq5 ?_
    · intro r6 eq5; replace eq5 := eq5.symm; subst eq5
      obtain rfl := Option.some.inj h
      exact E
theorem ddM_getNow_0 : decode cM_getNow 0 = .ok (.aload_n 0, 1) := by decide +kernel
theorem ddM_getNow_1 : decode cM_getNow 1 = .ok (.iload_n 1, 1) := by decide +kernel
theorem ddM_getNow_2 : decode cM_getNow 2 = .ok (.iload_n 2, 1) := by decide +kernel
theorem ddM_getNow_3 : decode cM_getNow 3 = .ok (.invokevirtual 229, 3) := by decide +kernel
theorem ddM_getNow_6 : decode cM_getNow 6 = .ok (.ifCond .ne 5, 3) := by decide +kernel
theorem ddM_getNow_9 : decode cM_getNow 9 = .ok (.iconst (-1), 1) := by decide +kernel
theorem ddM_getNow_10 : decode cM_getNow 10 = .ok (.ireturn, 1) := by decide +kernel
theorem ddM_getNow_11 : decode cM_getNow 11 = .ok (.aload_n 0, 1) := by decide +kernel
theorem ddM_getNow_12 : decode cM_getNow 12 = .ok (.iload_n 1, 1) := by decide +kernel
theorem ddM_getNow_13 : decode cM_getNow 13 = .ok (.iload_n 2, 1) := by decide +kernel
theorem ddM_getNow_14 : decode cM_getNow 14 = .ok (.invokevirtual 232, 3) := by decide +kernel
theorem ddM_getNow_17 : decode cM_getNow 17 = .ok (.istore_n 3, 1) := by decide +kernel
theorem ddM_getNow_18 : decode cM_getNow 18 = .ok (.aload_n 0, 1) := by decide +kernel
theorem ddM_getNow_19 : decode cM_getNow 19 = .ok (.getfield 217, 3) := by decide +kernel
theorem ddM_getNow_22 : decode cM_getNow 22 = .ok (.istore 4, 2) := by decide +kernel
theorem ddM_getNow_24 : decode cM_getNow 24 = .ok (.aload_n 0, 1) := by decide +kernel
theorem ddM_getNow_25 : decode cM_getNow 25 = .ok (.getfield 31, 3) := by decide +kernel
theorem ddM_getNow_28 : decode cM_getNow 28 = .ok (.sipush 3708, 3) := by decide +kernel
theorem ddM_getNow_31 : decode cM_getNow 31 = .ok (.iload_n 1, 1) := by decide +kernel
theorem ddM_getNow_32 : decode cM_getNow 32 = .ok (.iadd, 1) := by decide +kernel
theorem ddM_getNow_33 : decode cM_getNow 33 = .ok (.dup2, 1) := by decide +kernel
theorem ddM_getNow_34 : decode cM_getNow 34 = .ok (.iaload, 1) := by decide +kernel
theorem ddM_getNow_35 : decode cM_getNow 35 = .ok (.iconst 1, 1) := by decide +kernel
theorem ddM_getNow_36 : decode cM_getNow 36 = .ok (.iadd, 1) := by decide +kernel
theorem ddM_getNow_37 : decode cM_getNow 37 = .ok (.iastore, 1) := by decide +kernel
theorem ddM_getNow_38 : decode cM_getNow 38 = .ok (.aload_n 0, 1) := by decide +kernel
theorem ddM_getNow_39 : decode cM_getNow 39 = .ok (.getfield 31, 3) := by decide +kernel
theorem ddM_getNow_42 : decode cM_getNow 42 = .ok (.sipush 3708, 3) := by decide +kernel
theorem ddM_getNow_45 : decode cM_getNow 45 = .ok (.iload_n 1, 1) := by decide +kernel
theorem ddM_getNow_46 : decode cM_getNow 46 = .ok (.iadd, 1) := by decide +kernel
theorem ddM_getNow_47 : decode cM_getNow 47 = .ok (.iaload, 1) := by decide +kernel
theorem ddM_getNow_48 : decode cM_getNow 48 = .ok (.aload_n 0, 1) := by decide +kernel
theorem ddM_getNow_49 : decode cM_getNow 49 = .ok (.getfield 19, 3) := by decide +kernel
theorem ddM_getNow_52 : decode cM_getNow 52 = .ok (.iconst 4, 1) := by decide +kernel
theorem ddM_getNow_53 : decode cM_getNow 53 = .ok (.iaload, 1) := by decide +kernel
theorem ddM_getNow_54 : decode cM_getNow 54 = .ok (.irem, 1) := by decide +kernel
theorem ddM_getNow_55 : decode cM_getNow 55 = .ok (.ifCond .ne 8, 3) := by decide +kernel
theorem ddM_getNow_58 : decode cM_getNow 58 = .ok (.aload_n 0, 1) := by decide +kernel
theorem ddM_getNow_59 : decode cM_getNow 59 = .ok (.iload_n 1, 1) := by decide +kernel
theorem ddM_getNow_60 : decode cM_getNow 60 = .ok (.invokevirtual 235, 3) := by decide +kernel
theorem ddM_getNow_63 : decode cM_getNow 63 = .ok (.aload_n 0, 1) := by decide +kernel
theorem ddM_getNow_64 : decode cM_getNow 64 = .ok (.iload 4, 2) := by decide +kernel
theorem ddM_getNow_66 : decode cM_getNow 66 = .ok (.putfield 217, 3) := by decide +kernel
theorem ddM_getNow_69 : decode cM_getNow 69 = .ok (.iload_n 3, 1) := by decide +kernel
theorem ddM_getNow_70 : decode cM_getNow 70 = .ok (.ireturn, 1) := by decide +kernel
set_option maxHeartbeats 2000000 in
theorem zBM_getNow_63 {G : GXM} {X : CxM} (hG : GokM G) (C : CoM G X cM_getNow "HomeFreedModel") (N : mLM X = 5) {d : Nat} (hD : dpM X = d) (hd : 7 ≤ d)  {q : Int32 × Mem} (E : EnM G X (some .int) (some (.int q.1)) q.2 0 0) {v0 : Nat} {v3 : Int32} {v4 : Int32} {M : Mem} (h : BM_getNow_63 v0 v3 v4 M = some q) : ZM G X 63 [(0, .ref v0), (3, .int v3), (4, .int v4)] [] M 0 0 := by
  unfold BM_getNow_63 at h
  refine zz_aload_n C 0 ddM_getNow_63 rfl rfl ?_
  refine zz_iload C 2 ddM_getNow_64 rfl ?_
  obtain ⟨h1, h⟩ := gdN h
  refine zz_puti C ddM_getNow_66 fl_M_217 rfl rfl rfl h1 ?_
  refine zz_iload_n C 1 ddM_getNow_69 rfl rfl ?_
  obtain rfl := Option.some.inj h
  exact zz_iret C E ddM_getNow_70
set_option maxHeartbeats 2000000 in
theorem xM_getNow {G : GXM} {l : Launch} (hG : GokM G) (d : Nat) (hd : 7 ≤ d) {v0 : Nat} {v1 : Int32} {v2 : Int32} {M : Mem} {q : Int32 × Mem} (h : fM_getNow v0 v1 v2 M = some q) : ExM G l d 0 0 yM_getNow cM_getNow 5 (some .int) [.ref v0, .int v1, .int v2] M (some (.int q.1)) q.2 := by
  refine ex_of hG (by decide +kernel) (Nat.le_of_ble_eq_true rfl) ?_
  intro X hl C E N hD hn
  show ZM G X 0 [(0, .ref v0), (1, .int v1), (2, .int v2)] [] M 0 0
  unfold fM_getNow at h
  refine zz_aload_n C 0 ddM_getNow_0 rfl rfl ?_
  refine zz_iload_n C 1 ddM_getNow_1 rfl rfl ?_
  refine zz_iload_n C 2 ddM_getNow_2 rfl rfl ?_
  obtain ⟨h2, h⟩ := gdN h
  obtain ⟨q1, hq1, h⟩ := bindN h
  refine zz_callV0 (As := [.int v1, .int v2]) C ddM_getNow_3 wd_1467 my_M_canGet mv_M_canGet ⟨_, rfl, rfl⟩ (xM_canGet hG (d - 1) (by omega) hq1) (by omega) h2 rfl rfl (Nat.le_of_ble_eq_true rfl) ?_
  refine zz_if_ne (tgt := 11) C ddM_getNow_6 rfl (fun hc => ?_) (fun hc => ?_)
  · replace h := iteF h hc
    refine zz_aload_n C 0 ddM_getNow_11 rfl rfl ?_
    refine zz_iload_n C 1 ddM_getNow_12 rfl rfl ?_
    refine zz_iload_n C 2 ddM_getNow_13 rfl rfl ?_
    obtain ⟨h4, h⟩ := gdN h
    obtain ⟨q3, hq3, h⟩ := bindN h
    refine zz_callV0 (As := [.int v1, .int v2]) C ddM_getNow_14 wd_1487 my_M_getOnce mv_M_getOnce ⟨_, rfl, rfl⟩ (xM_getOnce hG (d - 1) (by omega) hq3) (by omega) h4 rfl rfl (Nat.le_of_ble_eq_true rfl) ?_
    refine zz_istore_n (L1 := [(3, .int q3.1), (0, .ref v0), (1, .int v1), (2, .int v2)]) C ddM_getNow_17 rfl N (by decide) rfl ?_
    refine zz_aload_n C 1 ddM_getNow_18 rfl rfl ?_
    obtain ⟨h5, h⟩ := gdN h
    refine zz_geti C ddM_getNow_19 fl_M_217 rfl h5 ?_
    refine zz_istore (L1 := [(4, .int (giM q3.2 v0 17)), (3, .int q3.1), (0, .ref v0), (1, .int v1), (2, .int v2)]) C ddM_getNow_22 N (by decide) rfl ?_
    refine zz_aload_n C 2 ddM_getNow_24 rfl rfl ?_
    obtain ⟨h6, h⟩ := gdN h
    refine zz_getr C ddM_getNow_25 fl_M_31 rfl h5 (of_decide_eq_true h6) ?_
    refine zz_sipush (v := 3708) C ddM_getNow_28 (by decide) ?_
    refine zz_iload_n C 3 ddM_getNow_31 rfl rfl ?_
    refine zz_iadd C ddM_getNow_32 ?_
    refine zz_dup2 C ddM_getNow_33 rfl rfl ?_
    obtain ⟨h7, h⟩ := gdN h
    refine zz_iaload C ddM_getNow_34 h7 ?_
    refine zz_iconst (v := 1) C ddM_getNow_35 (by decide) ?_
    refine zz_iadd C ddM_getNow_36 ?_
    obtain ⟨h8, h⟩ := gdN h
    refine zz_iastore C ddM_getNow_37 h8 ?_
    refine zz_aload_n C 2 ddM_getNow_38 rfl rfl ?_
    refine zz_getr C ddM_getNow_39 fl_M_31 rfl h5 (of_decide_eq_true h6) ?_
    refine zz_sipush (v := 3708) C ddM_getNow_42 (by decide) ?_
    refine zz_iload_n C 3 ddM_getNow_45 rfl rfl ?_
    refine zz_iadd C ddM_getNow_46 ?_
    refine zz_iaload C ddM_getNow_47 h7 ?_
    refine zz_aload_n C 2 ddM_getNow_48 rfl rfl ?_
    obtain ⟨h9, h⟩ := gdN h
    refine zz_getr C ddM_getNow_49 fl_M_19 rfl h5 (of_decide_eq_true h9) ?_
    refine zz_iconst (v := 4) C ddM_getNow_52 (by decide) ?_
    obtain ⟨h10, h⟩ := gdN h
    refine zz_iaload C ddM_getNow_53 h10 ?_
    obtain ⟨h11, h⟩ := gdN h
    refine zz_irem C ddM_getNow_54 (of_decide_eq_true h11) ?_
    refine zz_if_ne (tgt := 63) C ddM_getNow_55 rfl (fun hc => ?_) (fun hc => ?_)
    · replace h := iteF h hc
      refine zz_loc (L1 := [(0, .ref v0), (3, .int q3.1), (4, .int (giM q3.2 v0 17))]) [2, 1, 0] rfl ?_
      exact zBM_getNow_63 hG C N hD hd E h
    · replace h := iteT h hc
      refine zz_aload_n C 2 ddM_getNow_58 rfl rfl ?_
      refine zz_iload_n C 3 ddM_getNow_59 rfl rfl ?_
      obtain ⟨q12, hq12, h⟩ := bindN h
      refine zz_callV0 (As := [.int v1]) C ddM_getNow_60 wd_1527 my_M_tickNow mv_M_tickNow ⟨_, rfl, rfl⟩ (xM_tickNow hG (d - 1) (by omega) hq12) (by omega) h5 rfl rfl (Nat.le_of_ble_eq_true rfl) ?_
      refine zz_loc (L1 := [(0, .ref v0), (3, .int q3.1), (4, .int (giM q3.2 v0 17))]) [2, 1, 0] rfl ?_
      exact zBM_getNow_63 hG C N hD hd E h
  · replace h := iteT h hc
    refine zz_iconst (v := (-1)) C ddM_getNow_9 (by decide) ?_
    obtain rfl := Option.some.inj h
    exact zz_iret C E ddM_getNow_10
theorem ddM_note_0 : decode cM_note 0 = .ok (.aload_n 0, 1) := by decide +kernel
theorem ddM_note_1 : decode cM_note 1 = .ok (.getfield 31, 3) := by decide +kernel
theorem ddM_note_4 : decode cM_note 4 = .ok (.sipush 3712, 3) := by decide +kernel
theorem ddM_note_7 : decode cM_note 7 = .ok (.iaload, 1) := by decide +kernel
theorem ddM_note_8 : decode cM_note 8 = .ok (.bipush 60, 2) := by decide +kernel
theorem ddM_note_10 : decode cM_note 10 = .ok (.if_icmp .ne 52, 3) := by decide +kernel
theorem ddM_note_13 : decode cM_note 13 = .ok (.iconst 3, 1) := by decide +kernel
theorem ddM_note_14 : decode cM_note 14 = .ok (.istore_n 3, 1) := by decide +kernel
theorem ddM_note_15 : decode cM_note 15 = .ok (.iload_n 3, 1) := by decide +kernel
theorem ddM_note_16 : decode cM_note 16 = .ok (.sipush 180, 3) := by decide +kernel
theorem ddM_note_19 : decode cM_note 19 = .ok (.if_icmp .ge 31, 3) := by decide +kernel
theorem ddM_note_22 : decode cM_note 22 = .ok (.aload_n 0, 1) := by decide +kernel
theorem ddM_note_23 : decode cM_note 23 = .ok (.getfield 31, 3) := by decide +kernel
theorem ddM_note_26 : decode cM_note 26 = .ok (.sipush 3713, 3) := by decide +kernel
theorem ddM_note_29 : decode cM_note 29 = .ok (.iload_n 3, 1) := by decide +kernel
theorem ddM_note_30 : decode cM_note 30 = .ok (.iadd, 1) := by decide +kernel
theorem ddM_note_31 : decode cM_note 31 = .ok (.iconst 3, 1) := by decide +kernel
theorem ddM_note_32 : decode cM_note 32 = .ok (.isub, 1) := by decide +kernel
theorem ddM_note_33 : decode cM_note 33 = .ok (.aload_n 0, 1) := by decide +kernel
theorem ddM_note_34 : decode cM_note 34 = .ok (.getfield 31, 3) := by decide +kernel
theorem ddM_note_37 : decode cM_note 37 = .ok (.sipush 3713, 3) := by decide +kernel
theorem ddM_note_40 : decode cM_note 40 = .ok (.iload_n 3, 1) := by decide +kernel
theorem ddM_note_41 : decode cM_note 41 = .ok (.iadd, 1) := by decide +kernel
theorem ddM_note_42 : decode cM_note 42 = .ok (.iaload, 1) := by decide +kernel
theorem ddM_note_43 : decode cM_note 43 = .ok (.iastore, 1) := by decide +kernel
theorem ddM_note_44 : decode cM_note 44 = .ok (.iinc 3 1, 3) := by decide +kernel
theorem ddM_note_47 : decode cM_note 47 = .ok (.goto (-32), 3) := by decide +kernel
theorem ddM_note_50 : decode cM_note 50 = .ok (.aload_n 0, 1) := by decide +kernel
theorem ddM_note_51 : decode cM_note 51 = .ok (.getfield 31, 3) := by decide +kernel
theorem ddM_note_54 : decode cM_note 54 = .ok (.sipush 3712, 3) := by decide +kernel
theorem ddM_note_57 : decode cM_note 57 = .ok (.dup2, 1) := by decide +kernel
theorem ddM_note_58 : decode cM_note 58 = .ok (.iaload, 1) := by decide +kernel
theorem ddM_note_59 : decode cM_note 59 = .ok (.iconst 1, 1) := by decide +kernel
theorem ddM_note_60 : decode cM_note 60 = .ok (.isub, 1) := by decide +kernel
theorem ddM_note_61 : decode cM_note 61 = .ok (.iastore, 1) := by decide +kernel
theorem ddM_note_62 : decode cM_note 62 = .ok (.sipush 3713, 3) := by decide +kernel
theorem ddM_note_65 : decode cM_note 65 = .ok (.iconst 3, 1) := by decide +kernel
theorem ddM_note_66 : decode cM_note 66 = .ok (.aload_n 0, 1) := by decide +kernel
theorem ddM_note_67 : decode cM_note 67 = .ok (.getfield 31, 3) := by decide +kernel
theorem ddM_note_70 : decode cM_note 70 = .ok (.sipush 3712, 3) := by decide +kernel
theorem ddM_note_73 : decode cM_note 73 = .ok (.iaload, 1) := by decide +kernel
theorem ddM_note_74 : decode cM_note 74 = .ok (.imul, 1) := by decide +kernel
theorem ddM_note_75 : decode cM_note 75 = .ok (.iadd, 1) := by decide +kernel
theorem ddM_note_76 : decode cM_note 76 = .ok (.istore_n 3, 1) := by decide +kernel
theorem ddM_note_77 : decode cM_note 77 = .ok (.aload_n 0, 1) := by decide +kernel
theorem ddM_note_78 : decode cM_note 78 = .ok (.getfield 31, 3) := by decide +kernel
theorem ddM_note_81 : decode cM_note 81 = .ok (.iload_n 3, 1) := by decide +kernel
theorem ddM_note_82 : decode cM_note 82 = .ok (.iload_n 1, 1) := by decide +kernel
theorem ddM_note_83 : decode cM_note 83 = .ok (.iastore, 1) := by decide +kernel
theorem ddM_note_84 : decode cM_note 84 = .ok (.aload_n 0, 1) := by decide +kernel
theorem ddM_note_85 : decode cM_note 85 = .ok (.getfield 31, 3) := by decide +kernel
theorem ddM_note_88 : decode cM_note 88 = .ok (.iload_n 3, 1) := by decide +kernel
theorem ddM_note_89 : decode cM_note 89 = .ok (.iconst 1, 1) := by decide +kernel
theorem ddM_note_90 : decode cM_note 90 = .ok (.iadd, 1) := by decide +kernel
theorem ddM_note_91 : decode cM_note 91 = .ok (.iload_n 2, 1) := by decide +kernel
theorem ddM_note_92 : decode cM_note 92 = .ok (.iastore, 1) := by decide +kernel
theorem ddM_note_93 : decode cM_note 93 = .ok (.aload_n 0, 1) := by decide +kernel
theorem ddM_note_94 : decode cM_note 94 = .ok (.getfield 31, 3) := by decide +kernel
theorem ddM_note_97 : decode cM_note 97 = .ok (.iload_n 3, 1) := by decide +kernel
theorem ddM_note_98 : decode cM_note 98 = .ok (.iconst 2, 1) := by decide +kernel
theorem ddM_note_99 : decode cM_note 99 = .ok (.iadd, 1) := by decide +kernel
theorem ddM_note_100 : decode cM_note 100 = .ok (.aload_n 0, 1) := by decide +kernel
theorem ddM_note_101 : decode cM_note 101 = .ok (.getfield 217, 3) := by decide +kernel
theorem ddM_note_104 : decode cM_note 104 = .ok (.iastore, 1) := by decide +kernel
theorem ddM_note_105 : decode cM_note 105 = .ok (.aload_n 0, 1) := by decide +kernel
theorem ddM_note_106 : decode cM_note 106 = .ok (.getfield 31, 3) := by decide +kernel
theorem ddM_note_109 : decode cM_note 109 = .ok (.sipush 3712, 3) := by decide +kernel
theorem ddM_note_112 : decode cM_note 112 = .ok (.dup2, 1) := by decide +kernel
theorem ddM_note_113 : decode cM_note 113 = .ok (.iaload, 1) := by decide +kernel
theorem ddM_note_114 : decode cM_note 114 = .ok (.iconst 1, 1) := by decide +kernel
theorem ddM_note_115 : decode cM_note 115 = .ok (.iadd, 1) := by decide +kernel
theorem ddM_note_116 : decode cM_note 116 = .ok (.iastore, 1) := by decide +kernel
theorem ddM_note_117 : decode cM_note 117 = .ok (.return_, 1) := by decide +kernel
set_option maxHeartbeats 2000000 in
theorem zBM_note_62 {G : GXM} {X : CxM} (hG : GokM G) (C : CoM G X cM_note "HomeFreedModel") (N : mLM X = 4) {d : Nat} (hD : dpM X = d) (hd : 0 ≤ d)  {q : Mem} (E : EnM G X none none q 0 0) {v0 : Nat} {v1 : Int32} {v2 : Int32} {M : Mem} (h : BM_note_62 v0 v1 v2 M = some q) : ZM G X 62 [(0, .ref v0), (1, .int v1), (2, .int v2)] [] M 0 0 := by
  unfold BM_note_62 at h
  refine zz_sipush (v := 3713) C ddM_note_62 (by decide) ?_
  refine zz_iconst (v := 3) C ddM_note_65 (by decide) ?_
  refine zz_aload_n C 0 ddM_note_66 rfl rfl ?_
  obtain ⟨h1, h⟩ := gdN h
  obtain ⟨h2, h⟩ := gdN h
  refine zz_getr C ddM_note_67 fl_M_31 rfl h1 (of_decide_eq_true h2) ?_
  refine zz_sipush (v := 3712) C ddM_note_70 (by decide) ?_
  obtain ⟨h3, h⟩ := gdN h
  refine zz_iaload C ddM_note_73 h3 ?_
  refine zz_imul C ddM_note_74 ?_
  refine zz_iadd C ddM_note_75 ?_
  refine zz_istore_n (L1 := [(3, .int (3713 + (3 * (giM M (grM M v0 15) (Int32.toNatClampNeg 3712))))), (0, .ref v0), (1, .int v1), (2, .int v2)]) C ddM_note_76 rfl N (by decide) rfl ?_
  refine zz_aload_n C 1 ddM_note_77 rfl rfl ?_
  refine zz_getr C ddM_note_78 fl_M_31 rfl h1 (of_decide_eq_true h2) ?_
  refine zz_iload_n C 0 ddM_note_81 rfl rfl ?_
  refine zz_iload_n C 2 ddM_note_82 rfl rfl ?_
  obtain ⟨h4, h⟩ := gdN h
  refine zz_iastore C ddM_note_83 h4 ?_
  refine zz_aload_n C 1 ddM_note_84 rfl rfl ?_
  refine zz_getr C ddM_note_85 fl_M_31 rfl h1 (of_decide_eq_true h2) ?_
  refine zz_iload_n C 0 ddM_note_88 rfl rfl ?_
  refine zz_iconst (v := 1) C ddM_note_89 (by decide) ?_
  refine zz_iadd C ddM_note_90 ?_
  refine zz_iload_n C 3 ddM_note_91 rfl rfl ?_
  obtain ⟨h5, h⟩ := gdN h
  refine zz_iastore C ddM_note_92 h5 ?_
  refine zz_aload_n C 1 ddM_note_93 rfl rfl ?_
  refine zz_getr C ddM_note_94 fl_M_31 rfl h1 (of_decide_eq_true h2) ?_
  refine zz_iload_n C 0 ddM_note_97 rfl rfl ?_
  refine zz_iconst (v := 2) C ddM_note_98 (by decide) ?_
  refine zz_iadd C ddM_note_99 ?_
  refine zz_aload_n C 1 ddM_note_100 rfl rfl ?_
  refine zz_geti C ddM_note_101 fl_M_217 rfl h1 ?_
  obtain ⟨h6, h⟩ := gdN h
  refine zz_iastore C ddM_note_104 h6 ?_
  refine zz_aload_n C 1 ddM_note_105 rfl rfl ?_
  refine zz_getr C ddM_note_106 fl_M_31 rfl h1 (of_decide_eq_true h2) ?_
  refine zz_sipush (v := 3712) C ddM_note_109 (by decide) ?_
  refine zz_dup2 C ddM_note_112 rfl rfl ?_
  refine zz_iaload C ddM_note_113 h3 ?_
  refine zz_iconst (v := 1) C ddM_note_114 (by decide) ?_
  refine zz_iadd C ddM_note_115 ?_
  obtain ⟨h7, h⟩ := gdN h
  refine zz_iastore C ddM_note_116 h7 ?_
  obtain rfl := Option.some.inj h
  exact zz_vret C E ddM_note_117
set_option maxHeartbeats 2000000 in
theorem zBM_note_15 {G : GXM} {X : CxM} (hG : GokM G) (C : CoM G X cM_note "HomeFreedModel") (N : mLM X = 4) {d : Nat} (hD : dpM X = d) (hd : 0 ≤ d) {v0 : Nat} {v1 : Int32} {v2 : Int32} {K : Nat → Int32 → Int32 → Int32 → Mem → Option ((Mem))} {q : (Mem)} (hK : ∀ (v3 : Int32) (M : Mem), K v0 v1 v2 v3 M = some q → ZM G X 15 [(0, .ref v0), (1, .int v1), (2, .int v2), (3, .int v3)] [] M 0 0) (hx0 : ∀ y : Mem, q = y → ZM G X 50 [(0, .ref v0), (1, .int v1), (2, .int v2)] [] y 0 0) {v3 : Int32} {M : Mem} (h : BM_note_15 K v0 v1 v2 v3 M = some q) : ZM G X 15 [(0, .ref v0), (1, .int v1), (2, .int v2), (3, .int v3)] [] M 0 0 := by
  unfold BM_note_15 at h
  refine zz_iload_n C 3 ddM_note_15 rfl rfl ?_
  refine zz_sipush (v := 180) C ddM_note_16 (by decide) ?_
  refine zz_icmp_ge (tgt := 50) C ddM_note_19 rfl (fun hc => ?_) (fun hc => ?_)
  · replace h := iteT h hc
    refine zz_loc (L1 := [(0, .ref v0), (1, .int v1), (2, .int v2)]) [0, 1, 2] rfl ?_
    exact hx0 _ (Option.some.inj h).symm
  · replace h := iteF h hc
    refine zz_aload_n C 0 ddM_note_22 rfl rfl ?_
    obtain ⟨h1, h⟩ := gdN h
    obtain ⟨h2, h⟩ := gdN h
    refine zz_getr C ddM_note_23 fl_M_31 rfl h1 (of_decide_eq_true h2) ?_
    refine zz_sipush (v := 3713) C ddM_note_26 (by decide) ?_
    refine zz_iload_n C 3 ddM_note_29 rfl rfl ?_
    refine zz_iadd C ddM_note_30 ?_
    refine zz_iconst (v := 3) C ddM_note_31 (by decide) ?_
    refine zz_isub C ddM_note_32 ?_
    refine zz_aload_n C 0 ddM_note_33 rfl rfl ?_
    refine zz_getr C ddM_note_34 fl_M_31 rfl h1 (of_decide_eq_true h2) ?_
    refine zz_sipush (v := 3713) C ddM_note_37 (by decide) ?_
    refine zz_iload_n C 3 ddM_note_40 rfl rfl ?_
    refine zz_iadd C ddM_note_41 ?_
    obtain ⟨h3, h⟩ := gdN h
    refine zz_iaload C ddM_note_42 h3 ?_
    obtain ⟨h4, h⟩ := gdN h
    refine zz_iastore C ddM_note_43 h4 ?_
    refine zz_iinc (v := v3 + 1) (L1 := [(3, .int (v3 + 1)), (0, .ref v0), (1, .int v1), (2, .int v2)]) C 3 ddM_note_44 rfl rfl N (by decide) rfl ?_
    refine zz_goto (tgt := 15) C ddM_note_47 rfl ?_
    refine zz_loc (L1 := [(0, .ref v0), (1, .int v1), (2, .int v2), (3, .int (v3 + 1))]) [1, 2, 3, 0] rfl ?_
    exact hK _ _ h
set_option maxHeartbeats 2000000 in
theorem zLM_note_15 {G : GXM} {X : CxM} (hG : GokM G) (C : CoM G X cM_note "HomeFreedModel") (N : mLM X = 4) {d : Nat} (hD : dpM X = d) (hd : 0 ≤ d) {v0 : Nat} {v1 : Int32} {v2 : Int32} {q : (Mem)} : ∀ (f : Nat) (v3 : Int32) (M : Mem), LM_note_15 f v0 v1 v2 v3 M = some q → (hx0 : ∀ y : Mem, q = y → ZM G X 50 [(0, .ref v0), (1, .int v1), (2, .int v2)] [] y 0 0) → ZM G X 15 [(0, .ref v0), (1, .int v1), (2, .int v2), (3, .int v3)] [] M 0 0 := by
  intro f
  induction f with
  | zero => intro v3 M h; cases h
  | succ f ih =>
    intro v3 M h hx0
    exact zBM_note_15 hG C N hD hd (K := LM_note_15 f) (q := q) (fun v3 M h => ih v3 M h hx0) hx0 h
set_option maxHeartbeats 2000000 in
theorem xM_note {G : GXM} {l : Launch} (hG : GokM G) (d : Nat) (hd : 0 ≤ d) {v0 : Nat} {v1 : Int32} {v2 : Int32} {M : Mem} {q : Mem} (h : fM_note v0 v1 v2 M = some q) : ExM G l d 0 0 yM_note cM_note 4 none [.ref v0, .int v1, .int v2] M none q := by
  refine ex_of hG (by decide +kernel) (Nat.le_of_ble_eq_true rfl) ?_
  intro X hl C E N hD hn
  show ZM G X 0 [(0, .ref v0), (1, .int v1), (2, .int v2)] [] M 0 0
  unfold fM_note at h
  refine zz_aload_n C 0 ddM_note_0 rfl rfl ?_
  obtain ⟨h1, h⟩ := gdN h
  obtain ⟨h2, h⟩ := gdN h
  refine zz_getr C ddM_note_1 fl_M_31 rfl h1 (of_decide_eq_true h2) ?_
  refine zz_sipush (v := 3712) C ddM_note_4 (by decide) ?_
  obtain ⟨h3, h⟩ := gdN h
  refine zz_iaload C ddM_note_7 h3 ?_
  refine zz_bipush (v := 60) C ddM_note_8 (by decide) ?_
  refine zz_icmp_ne (tgt := 62) C ddM_note_10 rfl (fun hc => ?_) (fun hc => ?_)
  · replace h := iteF h hc
    exact zBM_note_62 hG C N hD hd E h
  · replace h := iteT h hc
    refine zz_iconst (v := 3) C ddM_note_13 (by decide) ?_
    refine zz_istore_n (L1 := [(3, .int 3), (0, .ref v0), (1, .int v1), (2, .int v2)]) C ddM_note_14 rfl N (by decide) rfl ?_
    refine zz_loc (L1 := [(0, .ref v0), (1, .int v1), (2, .int v2), (3, .int 3)]) [1, 2, 3, 0] rfl ?_
    obtain ⟨q4, hq4, h⟩ := bindN h
    refine zLM_note_15 hG C N hD hd 1000000 _ _ hq4 ?_
    · intro y5 eq4; replace eq4 := eq4.symm; subst eq4
      refine zz_aload_n C 0 ddM_note_50 rfl rfl ?_
      obtain ⟨h6, h⟩ := gdN h
      obtain ⟨h7, h⟩ := gdN h
      refine zz_getr C ddM_note_51 fl_M_31 rfl h6 (of_decide_eq_true h7) ?_
      refine zz_sipush (v := 3712) C ddM_note_54 (by decide) ?_
      refine zz_dup2 C ddM_note_57 rfl rfl ?_
      obtain ⟨h8, h⟩ := gdN h
      refine zz_iaload C ddM_note_58 h8 ?_
      refine zz_iconst (v := 1) C ddM_note_59 (by decide) ?_
      refine zz_isub C ddM_note_60 ?_
      obtain ⟨h9, h⟩ := gdN h
      refine zz_iastore C ddM_note_61 h9 ?_
      exact zBM_note_62 hG C N hD hd E h
theorem ddM_get_0 : decode cM_get 0 = .ok (.aload_n 0, 1) := by decide +kernel
theorem ddM_get_1 : decode cM_get 1 = .ok (.aload_n 0, 1) := by decide +kernel
theorem ddM_get_2 : decode cM_get 2 = .ok (.iload_n 1, 1) := by decide +kernel
theorem ddM_get_3 : decode cM_get 3 = .ok (.invokevirtual 163, 3) := by decide +kernel
theorem ddM_get_6 : decode cM_get 6 = .ok (.ifCond .ne 7, 3) := by decide +kernel
theorem ddM_get_9 : decode cM_get 9 = .ok (.iconst 0, 1) := by decide +kernel
theorem ddM_get_10 : decode cM_get 10 = .ok (.goto 45, 3) := by decide +kernel
theorem ddM_get_13 : decode cM_get 13 = .ok (.aload_n 0, 1) := by decide +kernel
theorem ddM_get_14 : decode cM_get 14 = .ok (.iload_n 2, 1) := by decide +kernel
theorem ddM_get_15 : decode cM_get 15 = .ok (.invokevirtual 312, 3) := by decide +kernel
theorem ddM_get_18 : decode cM_get 18 = .ok (.ifCond .ne 7, 3) := by decide +kernel
theorem ddM_get_21 : decode cM_get 21 = .ok (.iconst 1, 1) := by decide +kernel
theorem ddM_get_22 : decode cM_get 22 = .ok (.goto 33, 3) := by decide +kernel
theorem ddM_get_25 : decode cM_get 25 = .ok (.aload_n 0, 1) := by decide +kernel
theorem ddM_get_26 : decode cM_get 26 = .ok (.iload_n 1, 1) := by decide +kernel
theorem ddM_get_27 : decode cM_get 27 = .ok (.invokevirtual 260, 3) := by decide +kernel
theorem ddM_get_30 : decode cM_get 30 = .ok (.ifCond .ne 7, 3) := by decide +kernel
theorem ddM_get_33 : decode cM_get 33 = .ok (.iconst 2, 1) := by decide +kernel
theorem ddM_get_34 : decode cM_get 34 = .ok (.goto 21, 3) := by decide +kernel
theorem ddM_get_37 : decode cM_get 37 = .ok (.aload_n 0, 1) := by decide +kernel
theorem ddM_get_38 : decode cM_get 38 = .ok (.iload_n 1, 1) := by decide +kernel
theorem ddM_get_39 : decode cM_get 39 = .ok (.aload_n 0, 1) := by decide +kernel
theorem ddM_get_40 : decode cM_get 40 = .ok (.iload_n 2, 1) := by decide +kernel
theorem ddM_get_41 : decode cM_get 41 = .ok (.invokevirtual 263, 3) := by decide +kernel
theorem ddM_get_44 : decode cM_get 44 = .ok (.invokevirtual 229, 3) := by decide +kernel
theorem ddM_get_47 : decode cM_get 47 = .ok (.ifCond .ne 7, 3) := by decide +kernel
theorem ddM_get_50 : decode cM_get 50 = .ok (.iconst 3, 1) := by decide +kernel
theorem ddM_get_51 : decode cM_get 51 = .ok (.goto 4, 3) := by decide +kernel
theorem ddM_get_54 : decode cM_get 54 = .ok (.iconst (-1), 1) := by decide +kernel
theorem ddM_get_55 : decode cM_get 55 = .ok (.invokevirtual 315, 3) := by decide +kernel
theorem ddM_get_58 : decode cM_get 58 = .ok (.ifCond .eq 5, 3) := by decide +kernel
theorem ddM_get_61 : decode cM_get 61 = .ok (.iconst (-1), 1) := by decide +kernel
theorem ddM_get_62 : decode cM_get 62 = .ok (.ireturn, 1) := by decide +kernel
theorem ddM_get_63 : decode cM_get 63 = .ok (.aload_n 0, 1) := by decide +kernel
theorem ddM_get_64 : decode cM_get 64 = .ok (.invokevirtual 318, 3) := by decide +kernel
theorem ddM_get_67 : decode cM_get 67 = .ok (.aload_n 0, 1) := by decide +kernel
theorem ddM_get_68 : decode cM_get 68 = .ok (.iload_n 1, 1) := by decide +kernel
theorem ddM_get_69 : decode cM_get 69 = .ok (.aload_n 0, 1) := by decide +kernel
theorem ddM_get_70 : decode cM_get 70 = .ok (.iload_n 2, 1) := by decide +kernel
theorem ddM_get_71 : decode cM_get 71 = .ok (.invokevirtual 263, 3) := by decide +kernel
theorem ddM_get_74 : decode cM_get 74 = .ok (.invokevirtual 275, 3) := by decide +kernel
theorem ddM_get_77 : decode cM_get 77 = .ok (.istore_n 3, 1) := by decide +kernel
theorem ddM_get_78 : decode cM_get 78 = .ok (.aload_n 0, 1) := by decide +kernel
theorem ddM_get_79 : decode cM_get 79 = .ok (.iload_n 3, 1) := by decide +kernel
theorem ddM_get_80 : decode cM_get 80 = .ok (.iload_n 1, 1) := by decide +kernel
theorem ddM_get_81 : decode cM_get 81 = .ok (.invokevirtual 278, 3) := by decide +kernel
theorem ddM_get_84 : decode cM_get 84 = .ok (.iload_n 3, 1) := by decide +kernel
theorem ddM_get_85 : decode cM_get 85 = .ok (.ireturn, 1) := by decide +kernel
set_option maxHeartbeats 2000000 in
theorem zBM_get_55 {G : GXM} {X : CxM} (hG : GokM G) (C : CoM G X cM_get "HomeFreedModel") (N : mLM X = 4) {d : Nat} (hD : dpM X = d) (hd : 8 ≤ d)  {q : Int32 × Mem} (E : EnM G X (some .int) (some (.int q.1)) q.2 0 0) {v0 : Nat} {v1 : Int32} {v2 : Int32} {w0 : Nat} {w1 : Int32} {M : Mem} (h : BM_get_55 v0 v1 v2 w0 w1 M = some q) : ZM G X 55 [(0, .ref v0), (1, .int v1), (2, .int v2)] [.int w1, .ref w0] M 0 0 := by
  unfold BM_get_55 at h
  obtain ⟨h2, h⟩ := gdN h
  obtain ⟨q1, hq1, h⟩ := bindN h
  refine zz_callV0 (As := [.int w1]) C ddM_get_55 wd_1475 my_M_isRefused mv_M_isRefused ⟨_, rfl, rfl⟩ (xM_isRefused hG (d - 1) (by omega) hq1) (by omega) h2 rfl rfl (Nat.le_of_ble_eq_true rfl) ?_
  refine zz_if_eq (tgt := 63) C ddM_get_58 rfl (fun hc => ?_) (fun hc => ?_)
  · replace h := iteT h hc
    refine zz_aload_n C 0 ddM_get_63 rfl rfl ?_
    obtain ⟨h4, h⟩ := gdN h
    obtain ⟨q3, hq3, h⟩ := bindN h
    refine zz_callV0 (As := []) C ddM_get_64 wd_1479 my_M_keep mv_M_keep ⟨_, rfl, rfl⟩ (xM_keep hG (d - 1) (by omega) hq3) (by omega) h4 rfl rfl (Nat.le_of_ble_eq_true rfl) ?_
    refine zz_aload_n C 0 ddM_get_67 rfl rfl ?_
    refine zz_iload_n C 1 ddM_get_68 rfl rfl ?_
    refine zz_aload_n C 0 ddM_get_69 rfl rfl ?_
    refine zz_iload_n C 2 ddM_get_70 rfl rfl ?_
    obtain ⟨h6, h⟩ := gdN h
    obtain ⟨q5, hq5, h⟩ := bindN h
    refine zz_callV0 (As := [.int v2]) C ddM_get_71 wd_1459 my_M_classFor mv_M_classFor ⟨_, rfl, rfl⟩ (xM_classFor hG (d - 1) (by omega) hq5) (by omega) h6 rfl rfl (Nat.le_of_ble_eq_true rfl) ?_
    obtain ⟨h8, h⟩ := gdN h
    obtain ⟨q7, hq7, h⟩ := bindN h
    refine zz_callV0 (As := [.int v1, .int q5.1]) C ddM_get_74 wd_1483 my_M_getNow mv_M_getNow ⟨_, rfl, rfl⟩ (xM_getNow hG (d - 1) (by omega) hq7) (by omega) h8 rfl rfl (Nat.le_of_ble_eq_true rfl) ?_
    refine zz_istore_n (L1 := [(3, .int q7.1), (0, .ref v0), (1, .int v1), (2, .int v2)]) C ddM_get_77 rfl N (by decide) rfl ?_
    refine zz_aload_n C 1 ddM_get_78 rfl rfl ?_
    refine zz_iload_n C 0 ddM_get_79 rfl rfl ?_
    refine zz_iload_n C 2 ddM_get_80 rfl rfl ?_
    obtain ⟨h10, h⟩ := gdN h
    obtain ⟨q9, hq9, h⟩ := bindN h
    refine zz_callV0 (As := [.int q7.1, .int v1]) C ddM_get_81 wd_1555 my_M_note mv_M_note ⟨_, rfl, rfl⟩ (xM_note hG (d - 1) (by omega) hq9) (by omega) h10 rfl rfl (Nat.le_of_ble_eq_true rfl) ?_
    refine zz_iload_n C 0 ddM_get_84 rfl rfl ?_
    obtain rfl := Option.some.inj h
    exact zz_iret C E ddM_get_85
  · replace h := iteF h hc
    refine zz_iconst (v := (-1)) C ddM_get_61 (by decide) ?_
    obtain rfl := Option.some.inj h
    exact zz_iret C E ddM_get_62
set_option maxHeartbeats 2000000 in
theorem xM_get {G : GXM} {l : Launch} (hG : GokM G) (d : Nat) (hd : 8 ≤ d) {v0 : Nat} {v1 : Int32} {v2 : Int32} {M : Mem} {q : Int32 × Mem} (h : fM_get v0 v1 v2 M = some q) : ExM G l d 0 0 yM_get cM_get 4 (some .int) [.ref v0, .int v1, .int v2] M (some (.int q.1)) q.2 := by
  refine ex_of hG (by decide +kernel) (Nat.le_of_ble_eq_true rfl) ?_
  intro X hl C E N hD hn
  show ZM G X 0 [(0, .ref v0), (1, .int v1), (2, .int v2)] [] M 0 0
  unfold fM_get at h
  refine zz_aload_n C 0 ddM_get_0 rfl rfl ?_
  refine zz_aload_n C 0 ddM_get_1 rfl rfl ?_
  refine zz_iload_n C 1 ddM_get_2 rfl rfl ?_
  obtain ⟨h2, h⟩ := gdN h
  obtain ⟨q1, hq1, h⟩ := bindN h
  refine zz_callV0 (As := [.int v1]) C ddM_get_3 wd_1409 my_M_isThread mv_M_isThread ⟨_, rfl, rfl⟩ (xM_isThread hG (d - 1) (by omega) hq1) (by omega) h2 rfl rfl (Nat.le_of_ble_eq_true rfl) ?_
  refine zz_if_ne (tgt := 13) C ddM_get_6 rfl (fun hc => ?_) (fun hc => ?_)
  · replace h := iteF h hc
    refine zz_aload_n C 0 ddM_get_13 rfl rfl ?_
    refine zz_iload_n C 2 ddM_get_14 rfl rfl ?_
    obtain ⟨h4, h⟩ := gdN h
    obtain ⟨q3, hq3, h⟩ := bindN h
    refine zz_callV0 (As := [.int v2]) C ddM_get_15 wd_1455 my_M_isAsked mv_M_isAsked ⟨_, rfl, rfl⟩ (xM_isAsked hG (d - 1) (by omega) hq3) (by omega) h4 rfl rfl (Nat.le_of_ble_eq_true rfl) ?_
    refine zz_if_ne (tgt := 25) C ddM_get_18 rfl (fun hc => ?_) (fun hc => ?_)
    · replace h := iteF h hc
      refine zz_aload_n C 0 ddM_get_25 rfl rfl ?_
      refine zz_iload_n C 1 ddM_get_26 rfl rfl ?_
      obtain ⟨h6, h⟩ := gdN h
      obtain ⟨q5, hq5, h⟩ := bindN h
      refine zz_callV0 (As := [.int v1]) C ddM_get_27 wd_1463 my_M_doesLive mv_M_doesLive ⟨_, rfl, rfl⟩ (xM_doesLive hG (d - 1) (by omega) hq5) (by omega) h6 rfl rfl (Nat.le_of_ble_eq_true rfl) ?_
      refine zz_if_ne (tgt := 37) C ddM_get_30 rfl (fun hc => ?_) (fun hc => ?_)
      · replace h := iteF h hc
        refine zz_aload_n C 0 ddM_get_37 rfl rfl ?_
        refine zz_iload_n C 1 ddM_get_38 rfl rfl ?_
        refine zz_aload_n C 0 ddM_get_39 rfl rfl ?_
        refine zz_iload_n C 2 ddM_get_40 rfl rfl ?_
        obtain ⟨h8, h⟩ := gdN h
        obtain ⟨q7, hq7, h⟩ := bindN h
        refine zz_callV0 (As := [.int v2]) C ddM_get_41 wd_1459 my_M_classFor mv_M_classFor ⟨_, rfl, rfl⟩ (xM_classFor hG (d - 1) (by omega) hq7) (by omega) h8 rfl rfl (Nat.le_of_ble_eq_true rfl) ?_
        obtain ⟨h10, h⟩ := gdN h
        obtain ⟨q9, hq9, h⟩ := bindN h
        refine zz_callV0 (As := [.int v1, .int q7.1]) C ddM_get_44 wd_1467 my_M_canGet mv_M_canGet ⟨_, rfl, rfl⟩ (xM_canGet hG (d - 1) (by omega) hq9) (by omega) h10 rfl rfl (Nat.le_of_ble_eq_true rfl) ?_
        refine zz_if_ne (tgt := 54) C ddM_get_47 rfl (fun hc => ?_) (fun hc => ?_)
        · replace h := iteF h hc
          refine zz_iconst (v := (-1)) C ddM_get_54 (by decide) ?_
          exact zBM_get_55 hG C N hD hd E h
        · replace h := iteT h hc
          refine zz_iconst (v := 3) C ddM_get_50 (by decide) ?_
          refine zz_goto (tgt := 55) C ddM_get_51 rfl ?_
          exact zBM_get_55 hG C N hD hd E h
      · replace h := iteT h hc
        refine zz_iconst (v := 2) C ddM_get_33 (by decide) ?_
        refine zz_goto (tgt := 55) C ddM_get_34 rfl ?_
        exact zBM_get_55 hG C N hD hd E h
    · replace h := iteT h hc
      refine zz_iconst (v := 1) C ddM_get_21 (by decide) ?_
      refine zz_goto (tgt := 55) C ddM_get_22 rfl ?_
      exact zBM_get_55 hG C N hD hd E h
  · replace h := iteT h hc
    refine zz_iconst (v := 0) C ddM_get_9 (by decide) ?_
    refine zz_goto (tgt := 55) C ddM_get_10 rfl ?_
    exact zBM_get_55 hG C N hD hd E h
theorem ddM_freeNow_0 : decode cM_freeNow 0 = .ok (.iload_n 2, 1) := by decide +kernel
theorem ddM_freeNow_1 : decode cM_freeNow 1 = .ok (.bipush 100, 2) := by decide +kernel
theorem ddM_freeNow_3 : decode cM_freeNow 3 = .ok (.idiv, 1) := by decide +kernel
theorem ddM_freeNow_4 : decode cM_freeNow 4 = .ok (.istore_n 3, 1) := by decide +kernel
theorem ddM_freeNow_5 : decode cM_freeNow 5 = .ok (.iload_n 2, 1) := by decide +kernel
theorem ddM_freeNow_6 : decode cM_freeNow 6 = .ok (.bipush 100, 2) := by decide +kernel
theorem ddM_freeNow_8 : decode cM_freeNow 8 = .ok (.irem, 1) := by decide +kernel
theorem ddM_freeNow_9 : decode cM_freeNow 9 = .ok (.istore 4, 2) := by decide +kernel
theorem ddM_freeNow_11 : decode cM_freeNow 11 = .ok (.aload_n 0, 1) := by decide +kernel
theorem ddM_freeNow_12 : decode cM_freeNow 12 = .ok (.iload_n 3, 1) := by decide +kernel
theorem ddM_freeNow_13 : decode cM_freeNow 13 = .ok (.bipush 126, 2) := by decide +kernel
theorem ddM_freeNow_15 : decode cM_freeNow 15 = .ok (.iload 4, 2) := by decide +kernel
theorem ddM_freeNow_17 : decode cM_freeNow 17 = .ok (.iadd, 1) := by decide +kernel
theorem ddM_freeNow_18 : decode cM_freeNow 18 = .ok (.iconst 0, 1) := by decide +kernel
theorem ddM_freeNow_19 : decode cM_freeNow 19 = .ok (.invokevirtual 185, 3) := by decide +kernel
theorem ddM_freeNow_22 : decode cM_freeNow 22 = .ok (.aload_n 0, 1) := by decide +kernel
theorem ddM_freeNow_23 : decode cM_freeNow 23 = .ok (.iload_n 3, 1) := by decide +kernel
theorem ddM_freeNow_24 : decode cM_freeNow 24 = .ok (.invokevirtual 241, 3) := by decide +kernel
theorem ddM_freeNow_27 : decode cM_freeNow 27 = .ok (.ifCond .eq 46, 3) := by decide +kernel
theorem ddM_freeNow_30 : decode cM_freeNow 30 = .ok (.aload_n 0, 1) := by decide +kernel
theorem ddM_freeNow_31 : decode cM_freeNow 31 = .ok (.iload_n 3, 1) := by decide +kernel
theorem ddM_freeNow_32 : decode cM_freeNow 32 = .ok (.iconst 1, 1) := by decide +kernel
theorem ddM_freeNow_33 : decode cM_freeNow 33 = .ok (.invokevirtual 170, 3) := by decide +kernel
theorem ddM_freeNow_36 : decode cM_freeNow 36 = .ok (.iload_n 1, 1) := by decide +kernel
theorem ddM_freeNow_37 : decode cM_freeNow 37 = .ok (.if_icmp .ne 36, 3) := by decide +kernel
theorem ddM_freeNow_40 : decode cM_freeNow 40 = .ok (.aload_n 0, 1) := by decide +kernel
theorem ddM_freeNow_41 : decode cM_freeNow 41 = .ok (.iload_n 3, 1) := by decide +kernel
theorem ddM_freeNow_42 : decode cM_freeNow 42 = .ok (.iconst 1, 1) := by decide +kernel
theorem ddM_freeNow_43 : decode cM_freeNow 43 = .ok (.invokestatic 173, 3) := by decide +kernel
theorem ddM_freeNow_46 : decode cM_freeNow 46 = .ok (.iload 4, 2) := by decide +kernel
theorem ddM_freeNow_48 : decode cM_freeNow 48 = .ok (.invokevirtual 166, 3) := by decide +kernel
theorem ddM_freeNow_51 : decode cM_freeNow 51 = .ok (.aload_n 0, 1) := by decide +kernel
theorem ddM_freeNow_52 : decode cM_freeNow 52 = .ok (.iload_n 3, 1) := by decide +kernel
theorem ddM_freeNow_53 : decode cM_freeNow 53 = .ok (.iconst 0, 1) := by decide +kernel
theorem ddM_freeNow_54 : decode cM_freeNow 54 = .ok (.invokevirtual 170, 3) := by decide +kernel
theorem ddM_freeNow_57 : decode cM_freeNow 57 = .ok (.iconst 2, 1) := by decide +kernel
theorem ddM_freeNow_58 : decode cM_freeNow 58 = .ok (.if_icmp .ne 8, 3) := by decide +kernel
theorem ddM_freeNow_61 : decode cM_freeNow 61 = .ok (.aload_n 0, 1) := by decide +kernel
theorem ddM_freeNow_62 : decode cM_freeNow 62 = .ok (.iload_n 3, 1) := by decide +kernel
theorem ddM_freeNow_63 : decode cM_freeNow 63 = .ok (.invokevirtual 226, 3) := by decide +kernel
theorem ddM_freeNow_66 : decode cM_freeNow 66 = .ok (.aload_n 0, 1) := by decide +kernel
theorem ddM_freeNow_67 : decode cM_freeNow 67 = .ok (.iload_n 3, 1) := by decide +kernel
theorem ddM_freeNow_68 : decode cM_freeNow 68 = .ok (.invokevirtual 244, 3) := by decide +kernel
theorem ddM_freeNow_71 : decode cM_freeNow 71 = .ok (.iconst 0, 1) := by decide +kernel
theorem ddM_freeNow_72 : decode cM_freeNow 72 = .ok (.ireturn, 1) := by decide +kernel
theorem ddM_freeNow_73 : decode cM_freeNow 73 = .ok (.aload_n 0, 1) := by decide +kernel
theorem ddM_freeNow_74 : decode cM_freeNow 74 = .ok (.iload_n 1, 1) := by decide +kernel
theorem ddM_freeNow_75 : decode cM_freeNow 75 = .ok (.iload_n 3, 1) := by decide +kernel
theorem ddM_freeNow_76 : decode cM_freeNow 76 = .ok (.invokestatic 238, 3) := by decide +kernel
theorem ddM_freeNow_79 : decode cM_freeNow 79 = .ok (.iload 4, 2) := by decide +kernel
theorem ddM_freeNow_81 : decode cM_freeNow 81 = .ok (.invokevirtual 166, 3) := by decide +kernel
theorem ddM_freeNow_84 : decode cM_freeNow 84 = .ok (.aload_n 0, 1) := by decide +kernel
theorem ddM_freeNow_85 : decode cM_freeNow 85 = .ok (.getfield 31, 3) := by decide +kernel
theorem ddM_freeNow_88 : decode cM_freeNow 88 = .ok (.iload_n 1, 1) := by decide +kernel
theorem ddM_freeNow_89 : decode cM_freeNow 89 = .ok (.iload_n 3, 1) := by decide +kernel
theorem ddM_freeNow_90 : decode cM_freeNow 90 = .ok (.invokestatic 238, 3) := by decide +kernel
theorem ddM_freeNow_93 : decode cM_freeNow 93 = .ok (.iaload, 1) := by decide +kernel
theorem ddM_freeNow_94 : decode cM_freeNow 94 = .ok (.aload_n 0, 1) := by decide +kernel
theorem ddM_freeNow_95 : decode cM_freeNow 95 = .ok (.getfield 19, 3) := by decide +kernel
theorem ddM_freeNow_98 : decode cM_freeNow 98 = .ok (.iconst 3, 1) := by decide +kernel
theorem ddM_freeNow_99 : decode cM_freeNow 99 = .ok (.iaload, 1) := by decide +kernel
theorem ddM_freeNow_100 : decode cM_freeNow 100 = .ok (.if_icmp .ge 5, 3) := by decide +kernel
theorem ddM_freeNow_103 : decode cM_freeNow 103 = .ok (.iconst 1, 1) := by decide +kernel
theorem ddM_freeNow_104 : decode cM_freeNow 104 = .ok (.ireturn, 1) := by decide +kernel
theorem ddM_freeNow_105 : decode cM_freeNow 105 = .ok (.aload_n 0, 1) := by decide +kernel
theorem ddM_freeNow_106 : decode cM_freeNow 106 = .ok (.iload_n 1, 1) := by decide +kernel
theorem ddM_freeNow_107 : decode cM_freeNow 107 = .ok (.iload_n 3, 1) := by decide +kernel
theorem ddM_freeNow_108 : decode cM_freeNow 108 = .ok (.invokevirtual 247, 3) := by decide +kernel
theorem ddM_freeNow_111 : decode cM_freeNow 111 = .ok (.pop, 1) := by decide +kernel
theorem ddM_freeNow_112 : decode cM_freeNow 112 = .ok (.iconst 2, 1) := by decide +kernel
theorem ddM_freeNow_113 : decode cM_freeNow 113 = .ok (.ireturn, 1) := by decide +kernel
set_option maxHeartbeats 2000000 in
theorem zBM_freeNow_73 {G : GXM} {X : CxM} (hG : GokM G) (C : CoM G X cM_freeNow "HomeFreedModel") (N : mLM X = 5) {d : Nat} (hD : dpM X = d) (hd : 5 ≤ d)  {q : Int32 × Mem} (E : EnM G X (some .int) (some (.int q.1)) q.2 0 0) {v0 : Nat} {v1 : Int32} {v3 : Int32} {v4 : Int32} {M : Mem} (h : BM_freeNow_73 v0 v1 v3 v4 M = some q) : ZM G X 73 [(0, .ref v0), (1, .int v1), (3, .int v3), (4, .int v4)] [] M 0 0 := by
  unfold BM_freeNow_73 at h
  refine zz_aload_n C 0 ddM_freeNow_73 rfl rfl ?_
  refine zz_iload_n C 1 ddM_freeNow_74 rfl rfl ?_
  refine zz_iload_n C 2 ddM_freeNow_75 rfl rfl ?_
  obtain ⟨q1, hq1, h⟩ := bindN h
  refine zz_callS0 (As := [.int v1, .int v3]) C ddM_freeNow_76 wd_1425 my_M_boxAt mv_M_boxAt (xM_boxAt hG (d - 1) (by omega) hq1) (by omega) rfl rfl (Nat.le_of_ble_eq_true rfl) ?_
  refine zz_iload C 3 ddM_freeNow_79 rfl ?_
  obtain ⟨h3, h⟩ := gdN h
  obtain ⟨q2, hq2, h⟩ := bindN h
  refine zz_callV0 (As := [.int q1.1, .int v4]) C ddM_freeNow_81 wd_1499 my_M_addFirst mv_M_addFirst ⟨_, rfl, rfl⟩ (xM_addFirst hG (d - 1) (by omega) hq2) (by omega) h3 rfl rfl (Nat.le_of_ble_eq_true rfl) ?_
  refine zz_aload_n C 0 ddM_freeNow_84 rfl rfl ?_
  obtain ⟨h4, h⟩ := gdN h
  obtain ⟨h5, h⟩ := gdN h
  refine zz_getr C ddM_freeNow_85 fl_M_31 rfl h4 (of_decide_eq_true h5) ?_
  refine zz_iload_n C 1 ddM_freeNow_88 rfl rfl ?_
  refine zz_iload_n C 2 ddM_freeNow_89 rfl rfl ?_
  obtain ⟨q6, hq6, h⟩ := bindN h
  refine zz_callS0 (As := [.int v1, .int v3]) C ddM_freeNow_90 wd_1425 my_M_boxAt mv_M_boxAt (xM_boxAt hG (d - 1) (by omega) hq6) (by omega) rfl rfl (Nat.le_of_ble_eq_true rfl) ?_
  obtain ⟨h7, h⟩ := gdN h
  refine zz_iaload C ddM_freeNow_93 h7 ?_
  refine zz_aload_n C 0 ddM_freeNow_94 rfl rfl ?_
  obtain ⟨h8, h⟩ := gdN h
  obtain ⟨h9, h⟩ := gdN h
  refine zz_getr C ddM_freeNow_95 fl_M_19 rfl h8 (of_decide_eq_true h9) ?_
  refine zz_iconst (v := 3) C ddM_freeNow_98 (by decide) ?_
  obtain ⟨h10, h⟩ := gdN h
  refine zz_iaload C ddM_freeNow_99 h10 ?_
  refine zz_icmp_ge (tgt := 105) C ddM_freeNow_100 rfl (fun hc => ?_) (fun hc => ?_)
  · replace h := iteT h hc
    refine zz_aload_n C 0 ddM_freeNow_105 rfl rfl ?_
    refine zz_iload_n C 1 ddM_freeNow_106 rfl rfl ?_
    refine zz_iload_n C 2 ddM_freeNow_107 rfl rfl ?_
    obtain ⟨q11, hq11, h⟩ := bindN h
    refine zz_callV0 (As := [.int v1, .int v3]) C ddM_freeNow_108 wd_1535 my_M_goHome mv_M_goHome ⟨_, rfl, rfl⟩ (xM_goHome hG (d - 1) (by omega) hq11) (by omega) h8 rfl rfl (Nat.le_of_ble_eq_true rfl) ?_
    refine zz_pop C ddM_freeNow_111 rfl ?_
    refine zz_iconst (v := 2) C ddM_freeNow_112 (by decide) ?_
    obtain rfl := Option.some.inj h
    exact zz_iret C E ddM_freeNow_113
  · replace h := iteF h hc
    refine zz_iconst (v := 1) C ddM_freeNow_103 (by decide) ?_
    obtain rfl := Option.some.inj h
    exact zz_iret C E ddM_freeNow_104
set_option maxHeartbeats 2000000 in
theorem zBM_freeNow_66 {G : GXM} {X : CxM} (hG : GokM G) (C : CoM G X cM_freeNow "HomeFreedModel") (N : mLM X = 5) {d : Nat} (hD : dpM X = d) (hd : 5 ≤ d)  {q : Int32 × Mem} (E : EnM G X (some .int) (some (.int q.1)) q.2 0 0) {v0 : Nat} {v3 : Int32} {M : Mem} (h : BM_freeNow_66 v0 v3 M = some q) : ZM G X 66 [(0, .ref v0), (3, .int v3)] [] M 0 0 := by
  unfold BM_freeNow_66 at h
  refine zz_aload_n C 0 ddM_freeNow_66 rfl rfl ?_
  refine zz_iload_n C 1 ddM_freeNow_67 rfl rfl ?_
  obtain ⟨h2, h⟩ := gdN h
  obtain ⟨q1, hq1, h⟩ := bindN h
  refine zz_callV0 (As := [.int v3]) C ddM_freeNow_68 wd_1551 my_M_giveBack mv_M_giveBack ⟨_, rfl, rfl⟩ (xM_giveBack hG (d - 1) (by omega) hq1) (by omega) h2 rfl rfl (Nat.le_of_ble_eq_true rfl) ?_
  refine zz_iconst (v := 0) C ddM_freeNow_71 (by decide) ?_
  obtain rfl := Option.some.inj h
  exact zz_iret C E ddM_freeNow_72
set_option maxHeartbeats 2000000 in
theorem xM_freeNow {G : GXM} {l : Launch} (hG : GokM G) (d : Nat) (hd : 5 ≤ d) {v0 : Nat} {v1 : Int32} {v2 : Int32} {M : Mem} {q : Int32 × Mem} (h : fM_freeNow v0 v1 v2 M = some q) : ExM G l d 0 0 yM_freeNow cM_freeNow 5 (some .int) [.ref v0, .int v1, .int v2] M (some (.int q.1)) q.2 := by
  refine ex_of hG (by decide +kernel) (Nat.le_of_ble_eq_true rfl) ?_
  intro X hl C E N hD hn
  show ZM G X 0 [(0, .ref v0), (1, .int v1), (2, .int v2)] [] M 0 0
  unfold fM_freeNow at h
  refine zz_iload_n C 2 ddM_freeNow_0 rfl rfl ?_
  refine zz_bipush (v := 100) C ddM_freeNow_1 (by decide) ?_
  refine zz_idiv C ddM_freeNow_3 (by decide) ?_
  refine zz_istore_n (L1 := [(3, .int (v2 / 100)), (0, .ref v0), (1, .int v1), (2, .int v2)]) C ddM_freeNow_4 rfl N (by decide) rfl ?_
  refine zz_iload_n C 3 ddM_freeNow_5 rfl rfl ?_
  refine zz_bipush (v := 100) C ddM_freeNow_6 (by decide) ?_
  refine zz_irem C ddM_freeNow_8 (by decide) ?_
  refine zz_istore (L1 := [(4, .int (v2 - v2 / 100 * 100)), (3, .int (v2 / 100)), (0, .ref v0), (1, .int v1), (2, .int v2)]) C ddM_freeNow_9 N (by decide) rfl ?_
  refine zz_aload_n C 2 ddM_freeNow_11 rfl rfl ?_
  refine zz_iload_n C 1 ddM_freeNow_12 rfl rfl ?_
  refine zz_bipush (v := 126) C ddM_freeNow_13 (by decide) ?_
  refine zz_iload C 0 ddM_freeNow_15 rfl ?_
  refine zz_iadd C ddM_freeNow_17 ?_
  refine zz_iconst (v := 0) C ddM_freeNow_18 (by decide) ?_
  obtain ⟨h2, h⟩ := gdN h
  obtain ⟨q1, hq1, h⟩ := bindN h
  refine zz_callV0 (As := [.int (v2 / 100), .int (126 + (v2 - v2 / 100 * 100)), .int 0]) C ddM_freeNow_19 wd_1511 my_M_set mv_M_set ⟨_, rfl, rfl⟩ (xM_set hG (d - 1) (by omega) hq1) (by omega) h2 rfl rfl (Nat.le_of_ble_eq_true rfl) ?_
  refine zz_aload_n C 2 ddM_freeNow_22 rfl rfl ?_
  refine zz_iload_n C 1 ddM_freeNow_23 rfl rfl ?_
  obtain ⟨h4, h⟩ := gdN h
  obtain ⟨q3, hq3, h⟩ := bindN h
  refine zz_callV0 (As := [.int (v2 / 100)]) C ddM_freeNow_24 wd_1382 my_M_isOwned mv_M_isOwned ⟨_, rfl, rfl⟩ (xM_isOwned hG (d - 1) (by omega) hq3) (by omega) h4 rfl rfl (Nat.le_of_ble_eq_true rfl) ?_
  refine zz_if_eq (tgt := 73) C ddM_freeNow_27 rfl (fun hc => ?_) (fun hc => ?_)
  · replace h := iteT h hc
    refine zz_loc (L1 := [(0, .ref v0), (1, .int v1), (3, .int (v2 / 100)), (4, .int (v2 - v2 / 100 * 100))]) [2, 3, 1, 0] rfl ?_
    exact zBM_freeNow_73 hG C N hD hd E h
  · replace h := iteF h hc
    refine zz_aload_n C 2 ddM_freeNow_30 rfl rfl ?_
    refine zz_iload_n C 1 ddM_freeNow_31 rfl rfl ?_
    refine zz_iconst (v := 1) C ddM_freeNow_32 (by decide) ?_
    obtain ⟨h6, h⟩ := gdN h
    obtain ⟨q5, hq5, h⟩ := bindN h
    refine zz_callV0 (As := [.int (v2 / 100), .int 1]) C ddM_freeNow_33 wd_1378 my_M_of mv_M_of ⟨_, rfl, rfl⟩ (xM_of hG (d - 1) (by omega) hq5) (by omega) h6 rfl rfl (Nat.le_of_ble_eq_true rfl) ?_
    refine zz_iload_n C 3 ddM_freeNow_36 rfl rfl ?_
    refine zz_icmp_ne (tgt := 73) C ddM_freeNow_37 rfl (fun hc => ?_) (fun hc => ?_)
    · replace h := iteF h hc
      refine zz_loc (L1 := [(0, .ref v0), (1, .int v1), (3, .int (v2 / 100)), (4, .int (v2 - v2 / 100 * 100))]) [2, 3, 1, 0] rfl ?_
      exact zBM_freeNow_73 hG C N hD hd E h
    · replace h := iteT h hc
      refine zz_aload_n C 2 ddM_freeNow_40 rfl rfl ?_
      refine zz_iload_n C 1 ddM_freeNow_41 rfl rfl ?_
      refine zz_iconst (v := 1) C ddM_freeNow_42 (by decide) ?_
      obtain ⟨q7, hq7, h⟩ := bindN h
      refine zz_callS0 (As := [.int (v2 / 100), .int 1]) C ddM_freeNow_43 wd_1398 my_M_listAt mv_M_listAt (xM_listAt hG (d - 1) (by omega) hq7) (by omega) rfl rfl (Nat.le_of_ble_eq_true rfl) ?_
      refine zz_iload C 0 ddM_freeNow_46 rfl ?_
      obtain ⟨h9, h⟩ := gdN h
      obtain ⟨q8, hq8, h⟩ := bindN h
      refine zz_callV0 (As := [.int q7.1, .int (v2 - v2 / 100 * 100)]) C ddM_freeNow_48 wd_1499 my_M_addFirst mv_M_addFirst ⟨_, rfl, rfl⟩ (xM_addFirst hG (d - 1) (by omega) hq8) (by omega) h9 rfl rfl (Nat.le_of_ble_eq_true rfl) ?_
      refine zz_aload_n C 2 ddM_freeNow_51 rfl rfl ?_
      refine zz_iload_n C 1 ddM_freeNow_52 rfl rfl ?_
      refine zz_iconst (v := 0) C ddM_freeNow_53 (by decide) ?_
      obtain ⟨h11, h⟩ := gdN h
      obtain ⟨q10, hq10, h⟩ := bindN h
      refine zz_callV0 (As := [.int (v2 / 100), .int 0]) C ddM_freeNow_54 wd_1378 my_M_of mv_M_of ⟨_, rfl, rfl⟩ (xM_of hG (d - 1) (by omega) hq10) (by omega) h11 rfl rfl (Nat.le_of_ble_eq_true rfl) ?_
      refine zz_iconst (v := 2) C ddM_freeNow_57 (by decide) ?_
      refine zz_icmp_ne (tgt := 66) C ddM_freeNow_58 rfl (fun hc => ?_) (fun hc => ?_)
      · replace h := iteF h hc
        refine zz_loc (L1 := [(0, .ref v0), (3, .int (v2 / 100))]) [2, 1] rfl ?_
        exact zBM_freeNow_66 hG C N hD hd E h
      · replace h := iteT h hc
        refine zz_aload_n C 2 ddM_freeNow_61 rfl rfl ?_
        refine zz_iload_n C 1 ddM_freeNow_62 rfl rfl ?_
        obtain ⟨h13, h⟩ := gdN h
        obtain ⟨q12, hq12, h⟩ := bindN h
        refine zz_callV0 (As := [.int (v2 / 100)]) C ddM_freeNow_63 wd_1519 my_M_enqueue mv_M_enqueue ⟨_, rfl, rfl⟩ (xM_enqueue hG (d - 1) (by omega) hq12) (by omega) h13 rfl rfl (Nat.le_of_ble_eq_true rfl) ?_
        refine zz_loc (L1 := [(0, .ref v0), (3, .int (v2 / 100))]) [2, 1] rfl ?_
        exact zBM_freeNow_66 hG C N hD hd E h
theorem ddM_free_0 : decode cM_free 0 = .ok (.aload_n 0, 1) := by decide +kernel
theorem ddM_free_1 : decode cM_free 1 = .ok (.aload_n 0, 1) := by decide +kernel
theorem ddM_free_2 : decode cM_free 2 = .ok (.iload_n 1, 1) := by decide +kernel
theorem ddM_free_3 : decode cM_free 3 = .ok (.invokevirtual 163, 3) := by decide +kernel
theorem ddM_free_6 : decode cM_free 6 = .ok (.ifCond .eq 11, 3) := by decide +kernel
theorem ddM_free_9 : decode cM_free 9 = .ok (.aload_n 0, 1) := by decide +kernel
theorem ddM_free_10 : decode cM_free 10 = .ok (.iload_n 2, 1) := by decide +kernel
theorem ddM_free_11 : decode cM_free 11 = .ok (.invokevirtual 306, 3) := by decide +kernel
theorem ddM_free_14 : decode cM_free 14 = .ok (.ifCond .ne 7, 3) := by decide +kernel
theorem ddM_free_17 : decode cM_free 17 = .ok (.iconst 0, 1) := by decide +kernel
theorem ddM_free_18 : decode cM_free 18 = .ok (.goto 24, 3) := by decide +kernel
theorem ddM_free_21 : decode cM_free 21 = .ok (.aload_n 0, 1) := by decide +kernel
theorem ddM_free_22 : decode cM_free 22 = .ok (.iload_n 1, 1) := by decide +kernel
theorem ddM_free_23 : decode cM_free 23 = .ok (.invokevirtual 260, 3) := by decide +kernel
theorem ddM_free_26 : decode cM_free 26 = .ok (.ifCond .eq 11, 3) := by decide +kernel
theorem ddM_free_29 : decode cM_free 29 = .ok (.aload_n 0, 1) := by decide +kernel
theorem ddM_free_30 : decode cM_free 30 = .ok (.iload_n 2, 1) := by decide +kernel
theorem ddM_free_31 : decode cM_free 31 = .ok (.invokevirtual 309, 3) := by decide +kernel
theorem ddM_free_34 : decode cM_free 34 = .ok (.ifCond .ne 7, 3) := by decide +kernel
theorem ddM_free_37 : decode cM_free 37 = .ok (.iconst 2, 1) := by decide +kernel
theorem ddM_free_38 : decode cM_free 38 = .ok (.goto 4, 3) := by decide +kernel
theorem ddM_free_41 : decode cM_free 41 = .ok (.iconst (-1), 1) := by decide +kernel
theorem ddM_free_42 : decode cM_free 42 = .ok (.invokevirtual 315, 3) := by decide +kernel
theorem ddM_free_45 : decode cM_free 45 = .ok (.ifCond .eq 5, 3) := by decide +kernel
theorem ddM_free_48 : decode cM_free 48 = .ok (.iconst (-1), 1) := by decide +kernel
theorem ddM_free_49 : decode cM_free 49 = .ok (.ireturn, 1) := by decide +kernel
theorem ddM_free_50 : decode cM_free 50 = .ok (.aload_n 0, 1) := by decide +kernel
theorem ddM_free_51 : decode cM_free 51 = .ok (.invokevirtual 318, 3) := by decide +kernel
theorem ddM_free_54 : decode cM_free 54 = .ok (.aload_n 0, 1) := by decide +kernel
theorem ddM_free_55 : decode cM_free 55 = .ok (.iload_n 1, 1) := by decide +kernel
theorem ddM_free_56 : decode cM_free 56 = .ok (.iload_n 2, 1) := by decide +kernel
theorem ddM_free_57 : decode cM_free 57 = .ok (.invokevirtual 272, 3) := by decide +kernel
theorem ddM_free_60 : decode cM_free 60 = .ok (.ireturn, 1) := by decide +kernel
set_option maxHeartbeats 2000000 in
theorem zBM_free_42 {G : GXM} {X : CxM} (hG : GokM G) (C : CoM G X cM_free "HomeFreedModel") (N : mLM X = 3) {d : Nat} (hD : dpM X = d) (hd : 6 ≤ d)  {q : Int32 × Mem} (E : EnM G X (some .int) (some (.int q.1)) q.2 0 0) {v0 : Nat} {v1 : Int32} {v2 : Int32} {w0 : Nat} {w1 : Int32} {M : Mem} (h : BM_free_42 v0 v1 v2 w0 w1 M = some q) : ZM G X 42 [(0, .ref v0), (1, .int v1), (2, .int v2)] [.int w1, .ref w0] M 0 0 := by
  unfold BM_free_42 at h
  obtain ⟨h2, h⟩ := gdN h
  obtain ⟨q1, hq1, h⟩ := bindN h
  refine zz_callV0 (As := [.int w1]) C ddM_free_42 wd_1475 my_M_isRefused mv_M_isRefused ⟨_, rfl, rfl⟩ (xM_isRefused hG (d - 1) (by omega) hq1) (by omega) h2 rfl rfl (Nat.le_of_ble_eq_true rfl) ?_
  refine zz_if_eq (tgt := 50) C ddM_free_45 rfl (fun hc => ?_) (fun hc => ?_)
  · replace h := iteT h hc
    refine zz_aload_n C 0 ddM_free_50 rfl rfl ?_
    obtain ⟨h4, h⟩ := gdN h
    obtain ⟨q3, hq3, h⟩ := bindN h
    refine zz_callV0 (As := []) C ddM_free_51 wd_1479 my_M_keep mv_M_keep ⟨_, rfl, rfl⟩ (xM_keep hG (d - 1) (by omega) hq3) (by omega) h4 rfl rfl (Nat.le_of_ble_eq_true rfl) ?_
    refine zz_aload_n C 0 ddM_free_54 rfl rfl ?_
    refine zz_iload_n C 1 ddM_free_55 rfl rfl ?_
    refine zz_iload_n C 2 ddM_free_56 rfl rfl ?_
    obtain ⟨h6, h⟩ := gdN h
    obtain ⟨q5, hq5, h⟩ := bindN h
    refine zz_callV0 (As := [.int v1, .int v2]) C ddM_free_57 wd_1563 my_M_freeNow mv_M_freeNow ⟨_, rfl, rfl⟩ (xM_freeNow hG (d - 1) (by omega) hq5) (by omega) h6 rfl rfl (Nat.le_of_ble_eq_true rfl) ?_
    obtain rfl := Option.some.inj h
    exact zz_iret C E ddM_free_60
  · replace h := iteF h hc
    refine zz_iconst (v := (-1)) C ddM_free_48 (by decide) ?_
    obtain rfl := Option.some.inj h
    exact zz_iret C E ddM_free_49
set_option maxHeartbeats 2000000 in
theorem zBM_free_37 {G : GXM} {X : CxM} (hG : GokM G) (C : CoM G X cM_free "HomeFreedModel") (N : mLM X = 3) {d : Nat} (hD : dpM X = d) (hd : 6 ≤ d)  {q : Int32 × Mem} (E : EnM G X (some .int) (some (.int q.1)) q.2 0 0) {v0 : Nat} {v1 : Int32} {v2 : Int32} {w0 : Nat} {M : Mem} (h : BM_free_37 v0 v1 v2 w0 M = some q) : ZM G X 37 [(0, .ref v0), (1, .int v1), (2, .int v2)] [.ref w0] M 0 0 := by
  unfold BM_free_37 at h
  refine zz_iconst (v := 2) C ddM_free_37 (by decide) ?_
  refine zz_goto (tgt := 42) C ddM_free_38 rfl ?_
  exact zBM_free_42 hG C N hD hd E h
set_option maxHeartbeats 2000000 in
theorem zBM_free_17 {G : GXM} {X : CxM} (hG : GokM G) (C : CoM G X cM_free "HomeFreedModel") (N : mLM X = 3) {d : Nat} (hD : dpM X = d) (hd : 6 ≤ d)  {q : Int32 × Mem} (E : EnM G X (some .int) (some (.int q.1)) q.2 0 0) {v0 : Nat} {v1 : Int32} {v2 : Int32} {w0 : Nat} {M : Mem} (h : BM_free_17 v0 v1 v2 w0 M = some q) : ZM G X 17 [(0, .ref v0), (1, .int v1), (2, .int v2)] [.ref w0] M 0 0 := by
  unfold BM_free_17 at h
  refine zz_iconst (v := 0) C ddM_free_17 (by decide) ?_
  refine zz_goto (tgt := 42) C ddM_free_18 rfl ?_
  exact zBM_free_42 hG C N hD hd E h
set_option maxHeartbeats 2000000 in
theorem xM_free {G : GXM} {l : Launch} (hG : GokM G) (d : Nat) (hd : 6 ≤ d) {v0 : Nat} {v1 : Int32} {v2 : Int32} {M : Mem} {q : Int32 × Mem} (h : fM_free v0 v1 v2 M = some q) : ExM G l d 0 0 yM_free cM_free 3 (some .int) [.ref v0, .int v1, .int v2] M (some (.int q.1)) q.2 := by
  refine ex_of hG (by decide +kernel) (Nat.le_of_ble_eq_true rfl) ?_
  intro X hl C E N hD hn
  show ZM G X 0 [(0, .ref v0), (1, .int v1), (2, .int v2)] [] M 0 0
  unfold fM_free at h
  refine zz_aload_n C 0 ddM_free_0 rfl rfl ?_
  refine zz_aload_n C 0 ddM_free_1 rfl rfl ?_
  refine zz_iload_n C 1 ddM_free_2 rfl rfl ?_
  obtain ⟨h2, h⟩ := gdN h
  obtain ⟨q1, hq1, h⟩ := bindN h
  refine zz_callV0 (As := [.int v1]) C ddM_free_3 wd_1409 my_M_isThread mv_M_isThread ⟨_, rfl, rfl⟩ (xM_isThread hG (d - 1) (by omega) hq1) (by omega) h2 rfl rfl (Nat.le_of_ble_eq_true rfl) ?_
  refine zz_if_eq (tgt := 17) C ddM_free_6 rfl (fun hc => ?_) (fun hc => ?_)
  · replace h := iteT h hc
    exact zBM_free_17 hG C N hD hd E h
  · replace h := iteF h hc
    refine zz_aload_n C 0 ddM_free_9 rfl rfl ?_
    refine zz_iload_n C 2 ddM_free_10 rfl rfl ?_
    obtain ⟨h4, h⟩ := gdN h
    obtain ⟨q3, hq3, h⟩ := bindN h
    refine zz_callV0 (As := [.int v2]) C ddM_free_11 wd_1443 my_M_isBlock mv_M_isBlock ⟨_, rfl, rfl⟩ (xM_isBlock hG (d - 1) (by omega) hq3) (by omega) h4 rfl rfl (Nat.le_of_ble_eq_true rfl) ?_
    refine zz_if_ne (tgt := 21) C ddM_free_14 rfl (fun hc => ?_) (fun hc => ?_)
    · replace h := iteF h hc
      refine zz_aload_n C 0 ddM_free_21 rfl rfl ?_
      refine zz_iload_n C 1 ddM_free_22 rfl rfl ?_
      obtain ⟨h6, h⟩ := gdN h
      obtain ⟨q5, hq5, h⟩ := bindN h
      refine zz_callV0 (As := [.int v1]) C ddM_free_23 wd_1463 my_M_doesLive mv_M_doesLive ⟨_, rfl, rfl⟩ (xM_doesLive hG (d - 1) (by omega) hq5) (by omega) h6 rfl rfl (Nat.le_of_ble_eq_true rfl) ?_
      refine zz_if_eq (tgt := 37) C ddM_free_26 rfl (fun hc => ?_) (fun hc => ?_)
      · replace h := iteT h hc
        exact zBM_free_37 hG C N hD hd E h
      · replace h := iteF h hc
        refine zz_aload_n C 0 ddM_free_29 rfl rfl ?_
        refine zz_iload_n C 2 ddM_free_30 rfl rfl ?_
        obtain ⟨h8, h⟩ := gdN h
        obtain ⟨q7, hq7, h⟩ := bindN h
        refine zz_callV0 (As := [.int v2]) C ddM_free_31 wd_1447 my_M_isHeld mv_M_isHeld ⟨_, rfl, rfl⟩ (xM_isHeld hG (d - 1) (by omega) hq7) (by omega) h8 rfl rfl (Nat.le_of_ble_eq_true rfl) ?_
        refine zz_if_ne (tgt := 41) C ddM_free_34 rfl (fun hc => ?_) (fun hc => ?_)
        · replace h := iteF h hc
          refine zz_iconst (v := (-1)) C ddM_free_41 (by decide) ?_
          exact zBM_free_42 hG C N hD hd E h
        · replace h := iteT h hc
          exact zBM_free_37 hG C N hD hd E h
    · replace h := iteT h hc
      exact zBM_free_17 hG C N hD hd E h
