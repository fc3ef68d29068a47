theorem ddM_ahead_0 : decode cM_ahead 0 = .ok (.aload_n 0, 1) := by decide +kernel
theorem ddM_ahead_1 : decode cM_ahead 1 = .ok (.invokevirtual 82, 3) := by decide +kernel
theorem ddM_ahead_4 : decode cM_ahead 4 = .ok (.bipush 32, 2) := by decide +kernel
theorem ddM_ahead_6 : decode cM_ahead 6 = .ok (.if_icmp .ne 16, 3) := by decide +kernel
theorem ddM_ahead_9 : decode cM_ahead 9 = .ok (.aload_n 0, 1) := by decide +kernel
theorem ddM_ahead_10 : decode cM_ahead 10 = .ok (.dup, 1) := by decide +kernel
theorem ddM_ahead_11 : decode cM_ahead 11 = .ok (.getfield 79, 3) := by decide +kernel
theorem ddM_ahead_14 : decode cM_ahead 14 = .ok (.iconst 1, 1) := by decide +kernel
theorem ddM_ahead_15 : decode cM_ahead 15 = .ok (.iadd, 1) := by decide +kernel
theorem ddM_ahead_16 : decode cM_ahead 16 = .ok (.putfield 79, 3) := by decide +kernel
theorem ddM_ahead_19 : decode cM_ahead 19 = .ok (.goto (-19), 3) := by decide +kernel
theorem ddM_ahead_22 : decode cM_ahead 22 = .ok (.aload_n 0, 1) := by decide +kernel
theorem ddM_ahead_23 : decode cM_ahead 23 = .ok (.invokevirtual 82, 3) := by decide +kernel
theorem ddM_ahead_26 : decode cM_ahead 26 = .ok (.ireturn, 1) := by decide +kernel
set_option maxHeartbeats 2000000 in
theorem zBM_ahead_0 {G : GXM} {X : CxM} (hG : GokM G) (C : CoM G X cM_ahead "HomeFreedModel") (N : mLM X = 1) {d : Nat} (hD : dpM X = d) (hd : 1 ≤ d) {v0 : Nat} {K : Nat → Mem → Option ((Int32 × Mem))} {q : (Int32 × Mem)} (hK : ∀  (M : Mem), K v0 M = some q → ZM G X 0 [(0, .ref v0)] [] M 0 0) (hr : ∀ r : Int32 × Mem, q =  r → EnM G X (some .int) (some (.int r.1)) r.2 0 0) {M : Mem} (h : BM_ahead_0 K v0 M = some q) : ZM G X 0 [(0, .ref v0)] [] M 0 0 := by
  unfold BM_ahead_0 at h
  refine zz_aload_n C 0 ddM_ahead_0 rfl rfl ?_
  obtain ⟨h2, h⟩ := gdN h
  obtain ⟨q1, hq1, h⟩ := bindN h
  refine zz_callV0 (As := []) C ddM_ahead_1 wd_1307 my_M_here mv_M_here ⟨_, rfl, rfl⟩ (xM_here hG (d - 1) (by omega) hq1) (by omega) h2 rfl rfl (Nat.le_of_ble_eq_true rfl) ?_
  refine zz_bipush (v := 32) C ddM_ahead_4 (by decide) ?_
  refine zz_icmp_ne (tgt := 22) C ddM_ahead_6 rfl (fun hc => ?_) (fun hc => ?_)
  · replace h := iteF h hc
    refine zz_aload_n C 0 ddM_ahead_22 rfl rfl ?_
    obtain ⟨h4, h⟩ := gdN h
    obtain ⟨q3, hq3, h⟩ := bindN h
    refine zz_callV0 (As := []) C ddM_ahead_23 wd_1307 my_M_here mv_M_here ⟨_, rfl, rfl⟩ (xM_here hG (d - 1) (by omega) hq3) (by omega) h4 rfl rfl (Nat.le_of_ble_eq_true rfl) ?_
    exact zz_iret C (hr _ (Option.some.inj h).symm) ddM_ahead_26
  · replace h := iteT h hc
    refine zz_aload_n C 0 ddM_ahead_9 rfl rfl ?_
    refine zz_dup C ddM_ahead_10 rfl ?_
    obtain ⟨h5, h⟩ := gdN h
    refine zz_geti C ddM_ahead_11 fl_M_79 rfl h5 ?_
    refine zz_iconst (v := 1) C ddM_ahead_14 (by decide) ?_
    refine zz_iadd C ddM_ahead_15 ?_
    refine zz_puti C ddM_ahead_16 fl_M_79 rfl rfl rfl h5 ?_
    refine zz_goto (tgt := 0) C ddM_ahead_19 rfl ?_
    exact hK  _ h
set_option maxHeartbeats 2000000 in
theorem zLM_ahead_0 {G : GXM} {X : CxM} (hG : GokM G) (C : CoM G X cM_ahead "HomeFreedModel") (N : mLM X = 1) {d : Nat} (hD : dpM X = d) (hd : 1 ≤ d) {v0 : Nat} {q : (Int32 × Mem)} : ∀ (f : Nat)  (M : Mem), LM_ahead_0 f v0 M = some q → (hr : ∀ r : Int32 × Mem, q =  r → EnM G X (some .int) (some (.int r.1)) r.2 0 0) → ZM G X 0 [(0, .ref v0)] [] M 0 0 := by
  intro f
  induction f with
  | zero => intro  M h; cases h
  | succ f ih =>
    intro  M h hr
    exact zBM_ahead_0 hG C N hD hd (K := LM_ahead_0 f) (q := q) (fun  M h => ih  M h hr) hr h
set_option maxHeartbeats 2000000 in
theorem xM_ahead {G : GXM} {l : Launch} (hG : GokM G) (d : Nat) (hd : 1 ≤ d) {v0 : Nat} {M : Mem} {q : Int32 × Mem} (h : fM_ahead v0 M = some q) : ExM G l d 0 0 yM_ahead cM_ahead 1 (some .int) [.ref v0] M (some (.int q.1)) q.2 := by
  refine ex_of hG (by decide) (Nat.le_of_ble_eq_true rfl) ?_
  intro X hl C E N hD hn
  show ZM G X 0 [(0, .ref v0)] [] M 0 0
  unfold fM_ahead at h
  obtain ⟨q1, hq1, h⟩ := bindN h
  refine zLM_ahead_0 hG C N hD hd 1000000  _ hq1 ?_
  · intro r2 eq1; subst eq1
    obtain rfl := Option.some.inj h
    exact E
theorem ddM_itemOf_0 : decode cM_itemOf 0 = .ok (.iload_n 0, 1) := by decide +kernel
theorem ddM_itemOf_1 : decode cM_itemOf 1 = .ok (.bipush 99, 2) := by decide +kernel
theorem ddM_itemOf_3 : decode cM_itemOf 3 = .ok (.if_icmp .ne 15, 3) := by decide +kernel
theorem ddM_itemOf_6 : decode cM_itemOf 6 = .ok (.iload_n 1, 1) := by decide +kernel
theorem ddM_itemOf_7 : decode cM_itemOf 7 = .ok (.bipush 122, 2) := by decide +kernel
theorem ddM_itemOf_9 : decode cM_itemOf 9 = .ok (.if_icmp .ne 7, 3) := by decide +kernel
theorem ddM_itemOf_12 : decode cM_itemOf 12 = .ok (.iconst 0, 1) := by decide +kernel
theorem ddM_itemOf_13 : decode cM_itemOf 13 = .ok (.goto 4, 3) := by decide +kernel
theorem ddM_itemOf_16 : decode cM_itemOf 16 = .ok (.iconst (-1), 1) := by decide +kernel
theorem ddM_itemOf_17 : decode cM_itemOf 17 = .ok (.ireturn, 1) := by decide +kernel
theorem ddM_itemOf_18 : decode cM_itemOf 18 = .ok (.iload_n 1, 1) := by decide +kernel
theorem ddM_itemOf_19 : decode cM_itemOf 19 = .ok (.bipush 116, 2) := by decide +kernel
theorem ddM_itemOf_21 : decode cM_itemOf 21 = .ok (.if_icmp .ne 7, 3) := by decide +kernel
theorem ddM_itemOf_24 : decode cM_itemOf 24 = .ok (.iconst 0, 1) := by decide +kernel
theorem ddM_itemOf_25 : decode cM_itemOf 25 = .ok (.goto 44, 3) := by decide +kernel
theorem ddM_itemOf_28 : decode cM_itemOf 28 = .ok (.iload_n 1, 1) := by decide +kernel
theorem ddM_itemOf_29 : decode cM_itemOf 29 = .ok (.bipush 112, 2) := by decide +kernel
theorem ddM_itemOf_31 : decode cM_itemOf 31 = .ok (.if_icmp .ne 7, 3) := by decide +kernel
theorem ddM_itemOf_34 : decode cM_itemOf 34 = .ok (.iconst 1, 1) := by decide +kernel
theorem ddM_itemOf_35 : decode cM_itemOf 35 = .ok (.goto 34, 3) := by decide +kernel
theorem ddM_itemOf_38 : decode cM_itemOf 38 = .ok (.iload_n 1, 1) := by decide +kernel
theorem ddM_itemOf_39 : decode cM_itemOf 39 = .ok (.bipush 117, 2) := by decide +kernel
theorem ddM_itemOf_41 : decode cM_itemOf 41 = .ok (.if_icmp .ne 7, 3) := by decide +kernel
theorem ddM_itemOf_44 : decode cM_itemOf 44 = .ok (.iconst 2, 1) := by decide +kernel
theorem ddM_itemOf_45 : decode cM_itemOf 45 = .ok (.goto 24, 3) := by decide +kernel
theorem ddM_itemOf_48 : decode cM_itemOf 48 = .ok (.iload_n 1, 1) := by decide +kernel
theorem ddM_itemOf_49 : decode cM_itemOf 49 = .ok (.bipush 98, 2) := by decide +kernel
theorem ddM_itemOf_51 : decode cM_itemOf 51 = .ok (.if_icmp .ne 7, 3) := by decide +kernel
theorem ddM_itemOf_54 : decode cM_itemOf 54 = .ok (.iconst 3, 1) := by decide +kernel
theorem ddM_itemOf_55 : decode cM_itemOf 55 = .ok (.goto 14, 3) := by decide +kernel
theorem ddM_itemOf_58 : decode cM_itemOf 58 = .ok (.iload_n 1, 1) := by decide +kernel
theorem ddM_itemOf_59 : decode cM_itemOf 59 = .ok (.bipush 104, 2) := by decide +kernel
theorem ddM_itemOf_61 : decode cM_itemOf 61 = .ok (.if_icmp .ne 7, 3) := by decide +kernel
theorem ddM_itemOf_64 : decode cM_itemOf 64 = .ok (.iconst 4, 1) := by decide +kernel
theorem ddM_itemOf_65 : decode cM_itemOf 65 = .ok (.goto 4, 3) := by decide +kernel
theorem ddM_itemOf_68 : decode cM_itemOf 68 = .ok (.iconst (-1), 1) := by decide +kernel
theorem ddM_itemOf_69 : decode cM_itemOf 69 = .ok (.ireturn, 1) := by decide +kernel
set_option maxHeartbeats 2000000 in
theorem zBM_itemOf_69 {G : GXM} {X : CxM} (hG : GokM G) (C : CoM G X cM_itemOf "HomeFreedModel") (N : mLM X = 2) {d : Nat} (hD : dpM X = d) (hd : 0 ≤ d)  {q : Int32 × Mem} (E : EnM G X (some .int) (some (.int q.1)) q.2 0 0) {w0 : Int32} {M : Mem} (h : BM_itemOf_69 w0 M = some q) : ZM G X 69 [] [.int w0] M 0 0 := by
  unfold BM_itemOf_69 at h
  obtain rfl := Option.some.inj h
  exact zz_iret C E ddM_itemOf_69
set_option maxHeartbeats 2000000 in
theorem zBM_itemOf_17 {G : GXM} {X : CxM} (hG : GokM G) (C : CoM G X cM_itemOf "HomeFreedModel") (N : mLM X = 2) {d : Nat} (hD : dpM X = d) (hd : 0 ≤ d)  {q : Int32 × Mem} (E : EnM G X (some .int) (some (.int q.1)) q.2 0 0) {w0 : Int32} {M : Mem} (h : BM_itemOf_17 w0 M = some q) : ZM G X 17 [] [.int w0] M 0 0 := by
  unfold BM_itemOf_17 at h
  obtain rfl := Option.some.inj h
  exact zz_iret C E ddM_itemOf_17
set_option maxHeartbeats 2000000 in
theorem xM_itemOf {G : GXM} {l : Launch} (hG : GokM G) (d : Nat) (hd : 0 ≤ d) {v0 : Int32} {v1 : Int32} {M : Mem} {q : Int32 × Mem} (h : fM_itemOf v0 v1 M = some q) : ExM G l d 0 0 yM_itemOf cM_itemOf 2 (some .int) [.int v0, .int v1] M (some (.int q.1)) q.2 := by
  refine ex_of hG (by decide) (Nat.le_of_ble_eq_true rfl) ?_
  intro X hl C E N hD hn
  show ZM G X 0 [(0, .int v0), (1, .int v1)] [] M 0 0
  unfold fM_itemOf at h
  refine zz_iload_n C 0 ddM_itemOf_0 rfl rfl ?_
  refine zz_bipush (v := 99) C ddM_itemOf_1 (by decide) ?_
  refine zz_icmp_ne (tgt := 18) C ddM_itemOf_3 rfl (fun hc => ?_) (fun hc => ?_)
  · replace h := iteF h hc
    refine zz_iload_n C 1 ddM_itemOf_18 rfl rfl ?_
    refine zz_bipush (v := 116) C ddM_itemOf_19 (by decide) ?_
    refine zz_icmp_ne (tgt := 28) C ddM_itemOf_21 rfl (fun hc => ?_) (fun hc => ?_)
    · replace h := iteF h hc
      refine zz_iload_n C 1 ddM_itemOf_28 rfl rfl ?_
      refine zz_bipush (v := 112) C ddM_itemOf_29 (by decide) ?_
      refine zz_icmp_ne (tgt := 38) C ddM_itemOf_31 rfl (fun hc => ?_) (fun hc => ?_)
      · replace h := iteF h hc
        refine zz_iload_n C 1 ddM_itemOf_38 rfl rfl ?_
        refine zz_bipush (v := 117) C ddM_itemOf_39 (by decide) ?_
        refine zz_icmp_ne (tgt := 48) C ddM_itemOf_41 rfl (fun hc => ?_) (fun hc => ?_)
        · replace h := iteF h hc
          refine zz_iload_n C 1 ddM_itemOf_48 rfl rfl ?_
          refine zz_bipush (v := 98) C ddM_itemOf_49 (by decide) ?_
          refine zz_icmp_ne (tgt := 58) C ddM_itemOf_51 rfl (fun hc => ?_) (fun hc => ?_)
          · replace h := iteF h hc
            refine zz_iload_n C 1 ddM_itemOf_58 rfl rfl ?_
            refine zz_bipush (v := 104) C ddM_itemOf_59 (by decide) ?_
            refine zz_icmp_ne (tgt := 68) C ddM_itemOf_61 rfl (fun hc => ?_) (fun hc => ?_)
            · replace h := iteF h hc
              refine zz_iconst (v := (-1)) C ddM_itemOf_68 (by decide) ?_
              refine zz_loc (L1 := []) [] rfl ?_
              exact zBM_itemOf_69 hG C N hD hd E h
            · replace h := iteT h hc
              refine zz_iconst (v := 4) C ddM_itemOf_64 (by decide) ?_
              refine zz_goto (tgt := 69) C ddM_itemOf_65 rfl ?_
              refine zz_loc (L1 := []) [] rfl ?_
              exact zBM_itemOf_69 hG C N hD hd E h
          · replace h := iteT h hc
            refine zz_iconst (v := 3) C ddM_itemOf_54 (by decide) ?_
            refine zz_goto (tgt := 69) C ddM_itemOf_55 rfl ?_
            refine zz_loc (L1 := []) [] rfl ?_
            exact zBM_itemOf_69 hG C N hD hd E h
        · replace h := iteT h hc
          refine zz_iconst (v := 2) C ddM_itemOf_44 (by decide) ?_
          refine zz_goto (tgt := 69) C ddM_itemOf_45 rfl ?_
          refine zz_loc (L1 := []) [] rfl ?_
          exact zBM_itemOf_69 hG C N hD hd E h
      · replace h := iteT h hc
        refine zz_iconst (v := 1) C ddM_itemOf_34 (by decide) ?_
        refine zz_goto (tgt := 69) C ddM_itemOf_35 rfl ?_
        refine zz_loc (L1 := []) [] rfl ?_
        exact zBM_itemOf_69 hG C N hD hd E h
    · replace h := iteT h hc
      refine zz_iconst (v := 0) C ddM_itemOf_24 (by decide) ?_
      refine zz_goto (tgt := 69) C ddM_itemOf_25 rfl ?_
      refine zz_loc (L1 := []) [] rfl ?_
      exact zBM_itemOf_69 hG C N hD hd E h
  · replace h := iteT h hc
    refine zz_iload_n C 1 ddM_itemOf_6 rfl rfl ?_
    refine zz_bipush (v := 122) C ddM_itemOf_7 (by decide) ?_
    refine zz_icmp_ne (tgt := 16) C ddM_itemOf_9 rfl (fun hc => ?_) (fun hc => ?_)
    · replace h := iteF h hc
      refine zz_iconst (v := (-1)) C ddM_itemOf_16 (by decide) ?_
      refine zz_loc (L1 := []) [] rfl ?_
      exact zBM_itemOf_17 hG C N hD hd E h
    · replace h := iteT h hc
      refine zz_iconst (v := 0) C ddM_itemOf_12 (by decide) ?_
      refine zz_goto (tgt := 17) C ddM_itemOf_13 rfl ?_
      refine zz_loc (L1 := []) [] rfl ?_
      exact zBM_itemOf_17 hG C N hD hd E h
theorem ddM_has_0 : decode cM_has 0 = .ok (.iload_n 0, 1) := by decide +kernel
theorem ddM_has_1 : decode cM_has 1 = .ok (.iload_n 1, 1) := by decide +kernel
theorem ddM_has_2 : decode cM_has 2 = .ok (.ishr, 1) := by decide +kernel
theorem ddM_has_3 : decode cM_has 3 = .ok (.iconst 1, 1) := by decide +kernel
theorem ddM_has_4 : decode cM_has 4 = .ok (.iand, 1) := by decide +kernel
theorem ddM_has_5 : decode cM_has 5 = .ok (.iconst 1, 1) := by decide +kernel
theorem ddM_has_6 : decode cM_has 6 = .ok (.if_icmp .ne 7, 3) := by decide +kernel
theorem ddM_has_9 : decode cM_has 9 = .ok (.iconst 1, 1) := by decide +kernel
theorem ddM_has_10 : decode cM_has 10 = .ok (.goto 4, 3) := by decide +kernel
theorem ddM_has_13 : decode cM_has 13 = .ok (.iconst 0, 1) := by decide +kernel
theorem ddM_has_14 : decode cM_has 14 = .ok (.ireturn, 1) := by decide +kernel
set_option maxHeartbeats 2000000 in
theorem zBM_has_14 {G : GXM} {X : CxM} (hG : GokM G) (C : CoM G X cM_has "HomeFreedModel") (N : mLM X = 2) {d : Nat} (hD : dpM X = d) (hd : 0 ≤ d)  {q : Int32 × Mem} (E : EnM G X (some .boolean) (some (.int q.1)) q.2 0 0) {w0 : Int32} {M : Mem} (h : BM_has_14 w0 M = some q) : ZM G X 14 [] [.int w0] M 0 0 := by
  unfold BM_has_14 at h
  obtain ⟨h1, h⟩ := gdN h
  obtain rfl := Option.some.inj h
  exact zz_zret C (of_decide_eq_true h1) E ddM_has_14
set_option maxHeartbeats 2000000 in
theorem xM_has {G : GXM} {l : Launch} (hG : GokM G) (d : Nat) (hd : 0 ≤ d) {v0 : Int32} {v1 : Int32} {M : Mem} {q : Int32 × Mem} (h : fM_has v0 v1 M = some q) : ExM G l d 0 0 yM_has cM_has 2 (some .boolean) [.int v0, .int v1] M (some (.int q.1)) q.2 := by
  refine ex_of hG (by decide) (Nat.le_of_ble_eq_true rfl) ?_
  intro X hl C E N hD hn
  show ZM G X 0 [(0, .int v0), (1, .int v1)] [] M 0 0
  unfold fM_has at h
  refine zz_iload_n C 0 ddM_has_0 rfl rfl ?_
  refine zz_iload_n C 1 ddM_has_1 rfl rfl ?_
  refine zz_ishr C ddM_has_2 ?_
  refine zz_iconst (v := 1) C ddM_has_3 (by decide) ?_
  refine zz_iand C ddM_has_4 ?_
  refine zz_iconst (v := 1) C ddM_has_5 (by decide) ?_
  refine zz_icmp_ne (tgt := 13) C ddM_has_6 rfl (fun hc => ?_) (fun hc => ?_)
  · replace h := iteF h hc
    refine zz_iconst (v := 0) C ddM_has_13 (by decide) ?_
    refine zz_loc (L1 := []) [] rfl ?_
    exact zBM_has_14 hG C N hD hd E h
  · replace h := iteT h hc
    refine zz_iconst (v := 1) C ddM_has_9 (by decide) ?_
    refine zz_goto (tgt := 14) C ddM_has_10 rfl ?_
    refine zz_loc (L1 := []) [] rfl ?_
    exact zBM_has_14 hG C N hD hd E h
theorem ddM_highest_0 : decode cM_highest 0 = .ok (.iload_n 0, 1) := by decide +kernel
theorem ddM_highest_1 : decode cM_highest 1 = .ok (.bipush 99, 2) := by decide +kernel
theorem ddM_highest_3 : decode cM_highest 3 = .ok (.if_icmp .ne 6, 3) := by decide +kernel
theorem ddM_highest_6 : decode cM_highest 6 = .ok (.bipush 40, 2) := by decide +kernel
theorem ddM_highest_8 : decode cM_highest 8 = .ok (.ireturn, 1) := by decide +kernel
theorem ddM_highest_9 : decode cM_highest 9 = .ok (.iload_n 1, 1) := by decide +kernel
theorem ddM_highest_10 : decode cM_highest 10 = .ok (.ifCond .ne 7, 3) := by decide +kernel
theorem ddM_highest_13 : decode cM_highest 13 = .ok (.iconst 4, 1) := by decide +kernel
theorem ddM_highest_14 : decode cM_highest 14 = .ok (.goto 35, 3) := by decide +kernel
theorem ddM_highest_17 : decode cM_highest 17 = .ok (.iload_n 1, 1) := by decide +kernel
theorem ddM_highest_18 : decode cM_highest 18 = .ok (.iconst 1, 1) := by decide +kernel
theorem ddM_highest_19 : decode cM_highest 19 = .ok (.if_icmp .ne 8, 3) := by decide +kernel
theorem ddM_highest_22 : decode cM_highest 22 = .ok (.bipush 16, 2) := by decide +kernel
theorem ddM_highest_24 : decode cM_highest 24 = .ok (.goto 25, 3) := by decide +kernel
theorem ddM_highest_27 : decode cM_highest 27 = .ok (.iload_n 1, 1) := by decide +kernel
theorem ddM_highest_28 : decode cM_highest 28 = .ok (.iconst 2, 1) := by decide +kernel
theorem ddM_highest_29 : decode cM_highest 29 = .ok (.if_icmp .ne 8, 3) := by decide +kernel
theorem ddM_highest_32 : decode cM_highest 32 = .ok (.bipush 40, 2) := by decide +kernel
theorem ddM_highest_34 : decode cM_highest 34 = .ok (.goto 15, 3) := by decide +kernel
theorem ddM_highest_37 : decode cM_highest 37 = .ok (.iload_n 1, 1) := by decide +kernel
theorem ddM_highest_38 : decode cM_highest 38 = .ok (.iconst 3, 1) := by decide +kernel
theorem ddM_highest_39 : decode cM_highest 39 = .ok (.if_icmp .ne 8, 3) := by decide +kernel
theorem ddM_highest_42 : decode cM_highest 42 = .ok (.bipush 9, 2) := by decide +kernel
theorem ddM_highest_44 : decode cM_highest 44 = .ok (.goto 5, 3) := by decide +kernel
theorem ddM_highest_47 : decode cM_highest 47 = .ok (.bipush 30, 2) := by decide +kernel
theorem ddM_highest_49 : decode cM_highest 49 = .ok (.ireturn, 1) := by decide +kernel
set_option maxHeartbeats 2000000 in
theorem zBM_highest_49 {G : GXM} {X : CxM} (hG : GokM G) (C : CoM G X cM_highest "HomeFreedModel") (N : mLM X = 2) {d : Nat} (hD : dpM X = d) (hd : 0 ≤ d)  {q : Int32 × Mem} (E : EnM G X (some .int) (some (.int q.1)) q.2 0 0) {w0 : Int32} {M : Mem} (h : BM_highest_49 w0 M = some q) : ZM G X 49 [] [.int w0] M 0 0 := by
  unfold BM_highest_49 at h
  obtain rfl := Option.some.inj h
  exact zz_iret C E ddM_highest_49
set_option maxHeartbeats 2000000 in
theorem xM_highest {G : GXM} {l : Launch} (hG : GokM G) (d : Nat) (hd : 0 ≤ d) {v0 : Int32} {v1 : Int32} {M : Mem} {q : Int32 × Mem} (h : fM_highest v0 v1 M = some q) : ExM G l d 0 0 yM_highest cM_highest 2 (some .int) [.int v0, .int v1] M (some (.int q.1)) q.2 := by
  refine ex_of hG (by decide) (Nat.le_of_ble_eq_true rfl) ?_
  intro X hl C E N hD hn
  show ZM G X 0 [(0, .int v0), (1, .int v1)] [] M 0 0
  unfold fM_highest at h
  refine zz_iload_n C 0 ddM_highest_0 rfl rfl ?_
  refine zz_bipush (v := 99) C ddM_highest_1 (by decide) ?_
  refine zz_icmp_ne (tgt := 9) C ddM_highest_3 rfl (fun hc => ?_) (fun hc => ?_)
  · replace h := iteF h hc
    refine zz_iload_n C 1 ddM_highest_9 rfl rfl ?_
    refine zz_if_ne (tgt := 17) C ddM_highest_10 rfl (fun hc => ?_) (fun hc => ?_)
    · replace h := iteF h hc
      refine zz_iload_n C 1 ddM_highest_17 rfl rfl ?_
      refine zz_iconst (v := 1) C ddM_highest_18 (by decide) ?_
      refine zz_icmp_ne (tgt := 27) C ddM_highest_19 rfl (fun hc => ?_) (fun hc => ?_)
      · replace h := iteF h hc
        refine zz_iload_n C 1 ddM_highest_27 rfl rfl ?_
        refine zz_iconst (v := 2) C ddM_highest_28 (by decide) ?_
        refine zz_icmp_ne (tgt := 37) C ddM_highest_29 rfl (fun hc => ?_) (fun hc => ?_)
        · replace h := iteF h hc
          refine zz_iload_n C 1 ddM_highest_37 rfl rfl ?_
          refine zz_iconst (v := 3) C ddM_highest_38 (by decide) ?_
          refine zz_icmp_ne (tgt := 47) C ddM_highest_39 rfl (fun hc => ?_) (fun hc => ?_)
          · replace h := iteF h hc
            refine zz_bipush (v := 30) C ddM_highest_47 (by decide) ?_
            refine zz_loc (L1 := []) [] rfl ?_
            exact zBM_highest_49 hG C N hD hd E h
          · replace h := iteT h hc
            refine zz_bipush (v := 9) C ddM_highest_42 (by decide) ?_
            refine zz_goto (tgt := 49) C ddM_highest_44 rfl ?_
            refine zz_loc (L1 := []) [] rfl ?_
            exact zBM_highest_49 hG C N hD hd E h
        · replace h := iteT h hc
          refine zz_bipush (v := 40) C ddM_highest_32 (by decide) ?_
          refine zz_goto (tgt := 49) C ddM_highest_34 rfl ?_
          refine zz_loc (L1 := []) [] rfl ?_
          exact zBM_highest_49 hG C N hD hd E h
      · replace h := iteT h hc
        refine zz_bipush (v := 16) C ddM_highest_22 (by decide) ?_
        refine zz_goto (tgt := 49) C ddM_highest_24 rfl ?_
        refine zz_loc (L1 := []) [] rfl ?_
        exact zBM_highest_49 hG C N hD hd E h
    · replace h := iteT h hc
      refine zz_iconst (v := 4) C ddM_highest_13 (by decide) ?_
      refine zz_goto (tgt := 49) C ddM_highest_14 rfl ?_
      refine zz_loc (L1 := []) [] rfl ?_
      exact zBM_highest_49 hG C N hD hd E h
  · replace h := iteT h hc
    refine zz_bipush (v := 40) C ddM_highest_6 (by decide) ?_
    obtain rfl := Option.some.inj h
    exact zz_iret C E ddM_highest_8
theorem ddM_isDigit_0 : decode cM_isDigit 0 = .ok (.iload_n 0, 1) := by decide +kernel
theorem ddM_isDigit_1 : decode cM_isDigit 1 = .ok (.bipush 48, 2) := by decide +kernel
theorem ddM_isDigit_3 : decode cM_isDigit 3 = .ok (.if_icmp .lt 13, 3) := by decide +kernel
theorem ddM_isDigit_6 : decode cM_isDigit 6 = .ok (.iload_n 0, 1) := by decide +kernel
theorem ddM_isDigit_7 : decode cM_isDigit 7 = .ok (.bipush 57, 2) := by decide +kernel
theorem ddM_isDigit_9 : decode cM_isDigit 9 = .ok (.if_icmp .gt 7, 3) := by decide +kernel
theorem ddM_isDigit_12 : decode cM_isDigit 12 = .ok (.iconst 1, 1) := by decide +kernel
theorem ddM_isDigit_13 : decode cM_isDigit 13 = .ok (.goto 4, 3) := by decide +kernel
theorem ddM_isDigit_16 : decode cM_isDigit 16 = .ok (.iconst 0, 1) := by decide +kernel
theorem ddM_isDigit_17 : decode cM_isDigit 17 = .ok (.ireturn, 1) := by decide +kernel
set_option maxHeartbeats 2000000 in
theorem zBM_isDigit_17 {G : GXM} {X : CxM} (hG : GokM G) (C : CoM G X cM_isDigit "HomeFreedModel") (N : mLM X = 1) {d : Nat} (hD : dpM X = d) (hd : 0 ≤ d)  {q : Int32 × Mem} (E : EnM G X (some .boolean) (some (.int q.1)) q.2 0 0) {w0 : Int32} {M : Mem} (h : BM_isDigit_17 w0 M = some q) : ZM G X 17 [] [.int w0] M 0 0 := by
  unfold BM_isDigit_17 at h
  obtain ⟨h1, h⟩ := gdN h
  obtain rfl := Option.some.inj h
  exact zz_zret C (of_decide_eq_true h1) E ddM_isDigit_17
set_option maxHeartbeats 2000000 in
theorem zBM_isDigit_16 {G : GXM} {X : CxM} (hG : GokM G) (C : CoM G X cM_isDigit "HomeFreedModel") (N : mLM X = 1) {d : Nat} (hD : dpM X = d) (hd : 0 ≤ d)  {q : Int32 × Mem} (E : EnM G X (some .boolean) (some (.int q.1)) q.2 0 0) {M : Mem} (h : BM_isDigit_16 M = some q) : ZM G X 16 [] [] M 0 0 := by
  unfold BM_isDigit_16 at h
  refine zz_iconst (v := 0) C ddM_isDigit_16 (by decide) ?_
  exact zBM_isDigit_17 hG C N hD hd E h
set_option maxHeartbeats 2000000 in
theorem xM_isDigit {G : GXM} {l : Launch} (hG : GokM G) (d : Nat) (hd : 0 ≤ d) {v0 : Int32} {M : Mem} {q : Int32 × Mem} (h : fM_isDigit v0 M = some q) : ExM G l d 0 0 yM_isDigit cM_isDigit 1 (some .boolean) [.int v0] M (some (.int q.1)) q.2 := by
  refine ex_of hG (by decide) (Nat.le_of_ble_eq_true rfl) ?_
  intro X hl C E N hD hn
  show ZM G X 0 [(0, .int v0)] [] M 0 0
  unfold fM_isDigit at h
  refine zz_iload_n C 0 ddM_isDigit_0 rfl rfl ?_
  refine zz_bipush (v := 48) C ddM_isDigit_1 (by decide) ?_
  refine zz_icmp_lt (tgt := 16) C ddM_isDigit_3 rfl (fun hc => ?_) (fun hc => ?_)
  · replace h := iteT h hc
    refine zz_loc (L1 := []) [] rfl ?_
    exact zBM_isDigit_16 hG C N hD hd E h
  · replace h := iteF h hc
    refine zz_iload_n C 0 ddM_isDigit_6 rfl rfl ?_
    refine zz_bipush (v := 57) C ddM_isDigit_7 (by decide) ?_
    refine zz_icmp_gt (tgt := 16) C ddM_isDigit_9 rfl (fun hc => ?_) (fun hc => ?_)
    · replace h := iteT h hc
      refine zz_loc (L1 := []) [] rfl ?_
      exact zBM_isDigit_16 hG C N hD hd E h
    · replace h := iteF h hc
      refine zz_iconst (v := 1) C ddM_isDigit_12 (by decide) ?_
      refine zz_goto (tgt := 17) C ddM_isDigit_13 rfl ?_
      refine zz_loc (L1 := []) [] rfl ?_
      exact zBM_isDigit_17 hG C N hD hd E h
theorem ddM_bad_0 : decode cM_bad 0 = .ok (.aload_n 0, 1) := by decide +kernel
theorem ddM_bad_1 : decode cM_bad 1 = .ok (.aload_n 0, 1) := by decide +kernel
theorem ddM_bad_2 : decode cM_bad 2 = .ok (.getfield 86, 3) := by decide +kernel
theorem ddM_bad_5 : decode cM_bad 5 = .ok (.iconst (-1), 1) := by decide +kernel
theorem ddM_bad_6 : decode cM_bad 6 = .ok (.if_icmp .ne 10, 3) := by decide +kernel
theorem ddM_bad_9 : decode cM_bad 9 = .ok (.aload_n 0, 1) := by decide +kernel
theorem ddM_bad_10 : decode cM_bad 10 = .ok (.getfield 79, 3) := by decide +kernel
theorem ddM_bad_13 : decode cM_bad 13 = .ok (.goto 7, 3) := by decide +kernel
theorem ddM_bad_16 : decode cM_bad 16 = .ok (.aload_n 0, 1) := by decide +kernel
theorem ddM_bad_17 : decode cM_bad 17 = .ok (.getfield 86, 3) := by decide +kernel
theorem ddM_bad_20 : decode cM_bad 20 = .ok (.putfield 86, 3) := by decide +kernel
theorem ddM_bad_23 : decode cM_bad 23 = .ok (.return_, 1) := by decide +kernel
set_option maxHeartbeats 2000000 in
theorem zBM_bad_20 {G : GXM} {X : CxM} (hG : GokM G) (C : CoM G X cM_bad "HomeFreedModel") (N : mLM X = 1) {d : Nat} (hD : dpM X = d) (hd : 0 ≤ d)  {q : Mem} (E : EnM G X none none q 0 0) {w0 : Nat} {w1 : Int32} {M : Mem} (h : BM_bad_20 w0 w1 M = some q) : ZM G X 20 [] [.int w1, .ref w0] M 0 0 := by
  unfold BM_bad_20 at h
  obtain ⟨h1, h⟩ := gdN h
  refine zz_puti C ddM_bad_20 fl_M_86 rfl rfl rfl h1 ?_
  obtain rfl := Option.some.inj h
  exact zz_vret C E ddM_bad_23
set_option maxHeartbeats 2000000 in
theorem xM_bad {G : GXM} {l : Launch} (hG : GokM G) (d : Nat) (hd : 0 ≤ d) {v0 : Nat} {M : Mem} {q : Mem} (h : fM_bad v0 M = some q) : ExM G l d 0 0 yM_bad cM_bad 1 none [.ref v0] M none q := by
  refine ex_of hG (by decide) (Nat.le_of_ble_eq_true rfl) ?_
  intro X hl C E N hD hn
  show ZM G X 0 [(0, .ref v0)] [] M 0 0
  unfold fM_bad at h
  refine zz_aload_n C 0 ddM_bad_0 rfl rfl ?_
  refine zz_aload_n C 0 ddM_bad_1 rfl rfl ?_
  obtain ⟨h1, h⟩ := gdN h
  refine zz_geti C ddM_bad_2 fl_M_86 rfl h1 ?_
  refine zz_iconst (v := (-1)) C ddM_bad_5 (by decide) ?_
  refine zz_icmp_ne (tgt := 16) C ddM_bad_6 rfl (fun hc => ?_) (fun hc => ?_)
  · replace h := iteF h hc
    refine zz_aload_n C 0 ddM_bad_16 rfl rfl ?_
    refine zz_geti C ddM_bad_17 fl_M_86 rfl h1 ?_
    refine zz_loc (L1 := []) [] rfl ?_
    exact zBM_bad_20 hG C N hD hd E h
  · replace h := iteT h hc
    refine zz_aload_n C 0 ddM_bad_9 rfl rfl ?_
    refine zz_geti C ddM_bad_10 fl_M_79 rfl h1 ?_
    refine zz_goto (tgt := 20) C ddM_bad_13 rfl ?_
    refine zz_loc (L1 := []) [] rfl ?_
    exact zBM_bad_20 hG C N hD hd E h
theorem ddM_number_0 : decode cM_number 0 = .ok (.aload_n 0, 1) := by decide +kernel
theorem ddM_number_1 : decode cM_number 1 = .ok (.invokevirtual 89, 3) := by decide +kernel
theorem ddM_number_4 : decode cM_number 4 = .ok (.invokestatic 92, 3) := by decide +kernel
theorem ddM_number_7 : decode cM_number 7 = .ok (.ifCond .ne 9, 3) := by decide +kernel
theorem ddM_number_10 : decode cM_number 10 = .ok (.aload_n 0, 1) := by decide +kernel
theorem ddM_number_11 : decode cM_number 11 = .ok (.invokevirtual 96, 3) := by decide +kernel
theorem ddM_number_14 : decode cM_number 14 = .ok (.iload_n 1, 1) := by decide +kernel
theorem ddM_number_15 : decode cM_number 15 = .ok (.ireturn, 1) := by decide +kernel
theorem ddM_number_16 : decode cM_number 16 = .ok (.aload_n 0, 1) := by decide +kernel
theorem ddM_number_17 : decode cM_number 17 = .ok (.invokevirtual 82, 3) := by decide +kernel
theorem ddM_number_20 : decode cM_number 20 = .ok (.bipush 48, 2) := by decide +kernel
theorem ddM_number_22 : decode cM_number 22 = .ok (.isub, 1) := by decide +kernel
theorem ddM_number_23 : decode cM_number 23 = .ok (.istore_n 3, 1) := by decide +kernel
theorem ddM_number_24 : decode cM_number 24 = .ok (.aload_n 0, 1) := by decide +kernel
theorem ddM_number_25 : decode cM_number 25 = .ok (.dup, 1) := by decide +kernel
theorem ddM_number_26 : decode cM_number 26 = .ok (.getfield 79, 3) := by decide +kernel
theorem ddM_number_29 : decode cM_number 29 = .ok (.iconst 1, 1) := by decide +kernel
theorem ddM_number_30 : decode cM_number 30 = .ok (.iadd, 1) := by decide +kernel
theorem ddM_number_31 : decode cM_number 31 = .ok (.putfield 79, 3) := by decide +kernel
theorem ddM_number_34 : decode cM_number 34 = .ok (.aload_n 0, 1) := by decide +kernel
theorem ddM_number_35 : decode cM_number 35 = .ok (.invokevirtual 82, 3) := by decide +kernel
theorem ddM_number_38 : decode cM_number 38 = .ok (.invokestatic 92, 3) := by decide +kernel
theorem ddM_number_41 : decode cM_number 41 = .ok (.ifCond .eq 26, 3) := by decide +kernel
theorem ddM_number_44 : decode cM_number 44 = .ok (.bipush 10, 2) := by decide +kernel
theorem ddM_number_46 : decode cM_number 46 = .ok (.iload_n 3, 1) := by decide +kernel
theorem ddM_number_47 : decode cM_number 47 = .ok (.imul, 1) := by decide +kernel
theorem ddM_number_48 : decode cM_number 48 = .ok (.aload_n 0, 1) := by decide +kernel
theorem ddM_number_49 : decode cM_number 49 = .ok (.invokevirtual 82, 3) := by decide +kernel
theorem ddM_number_52 : decode cM_number 52 = .ok (.iadd, 1) := by decide +kernel
theorem ddM_number_53 : decode cM_number 53 = .ok (.bipush 48, 2) := by decide +kernel
theorem ddM_number_55 : decode cM_number 55 = .ok (.isub, 1) := by decide +kernel
theorem ddM_number_56 : decode cM_number 56 = .ok (.istore_n 3, 1) := by decide +kernel
theorem ddM_number_57 : decode cM_number 57 = .ok (.aload_n 0, 1) := by decide +kernel
theorem ddM_number_58 : decode cM_number 58 = .ok (.dup, 1) := by decide +kernel
theorem ddM_number_59 : decode cM_number 59 = .ok (.getfield 79, 3) := by decide +kernel
theorem ddM_number_62 : decode cM_number 62 = .ok (.iconst 1, 1) := by decide +kernel
theorem ddM_number_63 : decode cM_number 63 = .ok (.iadd, 1) := by decide +kernel
theorem ddM_number_64 : decode cM_number 64 = .ok (.putfield 79, 3) := by decide +kernel
theorem ddM_number_67 : decode cM_number 67 = .ok (.aload_n 0, 1) := by decide +kernel
theorem ddM_number_68 : decode cM_number 68 = .ok (.invokevirtual 82, 3) := by decide +kernel
theorem ddM_number_71 : decode cM_number 71 = .ok (.invokestatic 92, 3) := by decide +kernel
theorem ddM_number_74 : decode cM_number 74 = .ok (.ifCond .eq 10, 3) := by decide +kernel
theorem ddM_number_77 : decode cM_number 77 = .ok (.aload_n 0, 1) := by decide +kernel
theorem ddM_number_78 : decode cM_number 78 = .ok (.invokevirtual 96, 3) := by decide +kernel
theorem ddM_number_81 : decode cM_number 81 = .ok (.goto 26, 3) := by decide +kernel
theorem ddM_number_84 : decode cM_number 84 = .ok (.iload_n 3, 1) := by decide +kernel
theorem ddM_number_85 : decode cM_number 85 = .ok (.iload_n 1, 1) := by decide +kernel
theorem ddM_number_86 : decode cM_number 86 = .ok (.iload_n 2, 1) := by decide +kernel
theorem ddM_number_87 : decode cM_number 87 = .ok (.invokestatic 75, 3) := by decide +kernel
theorem ddM_number_90 : decode cM_number 90 = .ok (.ifCond .ne 17, 3) := by decide +kernel
theorem ddM_number_93 : decode cM_number 93 = .ok (.aload_n 0, 1) := by decide +kernel
theorem ddM_number_94 : decode cM_number 94 = .ok (.dup, 1) := by decide +kernel
theorem ddM_number_95 : decode cM_number 95 = .ok (.getfield 79, 3) := by decide +kernel
theorem ddM_number_98 : decode cM_number 98 = .ok (.iconst 1, 1) := by decide +kernel
theorem ddM_number_99 : decode cM_number 99 = .ok (.isub, 1) := by decide +kernel
theorem ddM_number_100 : decode cM_number 100 = .ok (.putfield 79, 3) := by decide +kernel
theorem ddM_number_103 : decode cM_number 103 = .ok (.aload_n 0, 1) := by decide +kernel
theorem ddM_number_104 : decode cM_number 104 = .ok (.invokevirtual 96, 3) := by decide +kernel
theorem ddM_number_107 : decode cM_number 107 = .ok (.iload_n 3, 1) := by decide +kernel
theorem ddM_number_108 : decode cM_number 108 = .ok (.ireturn, 1) := by decide +kernel
set_option maxHeartbeats 2000000 in
theorem zBM_number_107 {G : GXM} {X : CxM} (hG : GokM G) (C : CoM G X cM_number "HomeFreedModel") (N : mLM X = 4) {d : Nat} (hD : dpM X = d) (hd : 2 ≤ d)  {q : Int32 × Mem} (E : EnM G X (some .int) (some (.int q.1)) q.2 0 0) {v3 : Int32} {M : Mem} (h : BM_number_107 v3 M = some q) : ZM G X 107 [(3, .int v3)] [] M 0 0 := by
  unfold BM_number_107 at h
  refine zz_iload_n C 0 ddM_number_107 rfl rfl ?_
  obtain rfl := Option.some.inj h
  exact zz_iret C E ddM_number_108
set_option maxHeartbeats 2000000 in
theorem zBM_number_67 {G : GXM} {X : CxM} (hG : GokM G) (C : CoM G X cM_number "HomeFreedModel") (N : mLM X = 4) {d : Nat} (hD : dpM X = d) (hd : 2 ≤ d)  {q : Int32 × Mem} (E : EnM G X (some .int) (some (.int q.1)) q.2 0 0) {v0 : Nat} {v1 : Int32} {v2 : Int32} {v3 : Int32} {M : Mem} (h : BM_number_67 v0 v1 v2 v3 M = some q) : ZM G X 67 [(0, .ref v0), (1, .int v1), (2, .int v2), (3, .int v3)] [] M 0 0 := by
  unfold BM_number_67 at h
  refine zz_aload_n C 0 ddM_number_67 rfl rfl ?_
  obtain ⟨h2, h⟩ := gdN h
  obtain ⟨q1, hq1, h⟩ := bindN h
  refine zz_callV0 (As := []) C ddM_number_68 wd_1307 my_M_here mv_M_here ⟨_, rfl, rfl⟩ (xM_here hG (d - 1) (by omega) hq1) (by omega) h2 rfl rfl (Nat.le_of_ble_eq_true rfl) ?_
  obtain ⟨q3, hq3, h⟩ := bindN h
  refine zz_callS0 (As := [.int q1.1]) C ddM_number_71 wd_1328 my_M_isDigit mv_M_isDigit (xM_isDigit hG (d - 1) (by omega) hq3) (by omega) rfl rfl (Nat.le_of_ble_eq_true rfl) ?_
  refine zz_if_eq (tgt := 84) C ddM_number_74 rfl (fun hc => ?_) (fun hc => ?_)
  · replace h := iteT h hc
    refine zz_iload_n C 3 ddM_number_84 rfl rfl ?_
    refine zz_iload_n C 1 ddM_number_85 rfl rfl ?_
    refine zz_iload_n C 2 ddM_number_86 rfl rfl ?_
    obtain ⟨q4, hq4, h⟩ := bindN h
    refine zz_callS0 (As := [.int v3, .int v1, .int v2]) C ddM_number_87 wd_1289 my_M_in mv_M_in (xM_in hG (d - 1) (by omega) hq4) (by omega) rfl rfl (Nat.le_of_ble_eq_true rfl) ?_
    refine zz_if_ne (tgt := 107) C ddM_number_90 rfl (fun hc => ?_) (fun hc => ?_)
    · replace h := iteF h hc
      refine zz_loc (L1 := [(3, .int v3)]) [3] rfl ?_
      exact zBM_number_107 hG C N hD hd E h
    · replace h := iteT h hc
      refine zz_aload_n C 0 ddM_number_93 rfl rfl ?_
      refine zz_dup C ddM_number_94 rfl ?_
      obtain ⟨h5, h⟩ := gdN h
      refine zz_geti C ddM_number_95 fl_M_79 rfl h5 ?_
      refine zz_iconst (v := 1) C ddM_number_98 (by decide) ?_
      refine zz_isub C ddM_number_99 ?_
      refine zz_puti C ddM_number_100 fl_M_79 rfl rfl rfl h5 ?_
      refine zz_aload_n C 0 ddM_number_103 rfl rfl ?_
      obtain ⟨q6, hq6, h⟩ := bindN h
      refine zz_callV0 (As := []) C ddM_number_104 wd_1331 my_M_bad mv_M_bad ⟨_, rfl, rfl⟩ (xM_bad hG (d - 1) (by omega) hq6) (by omega) h5 rfl rfl (Nat.le_of_ble_eq_true rfl) ?_
      refine zz_loc (L1 := [(3, .int v3)]) [3] rfl ?_
      exact zBM_number_107 hG C N hD hd E h
  · replace h := iteF h hc
    refine zz_aload_n C 0 ddM_number_77 rfl rfl ?_
    obtain ⟨h8, h⟩ := gdN h
    obtain ⟨q7, hq7, h⟩ := bindN h
    refine zz_callV0 (As := []) C ddM_number_78 wd_1331 my_M_bad mv_M_bad ⟨_, rfl, rfl⟩ (xM_bad hG (d - 1) (by omega) hq7) (by omega) h8 rfl rfl (Nat.le_of_ble_eq_true rfl) ?_
    refine zz_goto (tgt := 107) C ddM_number_81 rfl ?_
    refine zz_loc (L1 := [(3, .int v3)]) [3] rfl ?_
    exact zBM_number_107 hG C N hD hd E h
set_option maxHeartbeats 2000000 in
theorem xM_number {G : GXM} {l : Launch} (hG : GokM G) (d : Nat) (hd : 2 ≤ d) {v0 : Nat} {v1 : Int32} {v2 : Int32} {M : Mem} {q : Int32 × Mem} (h : fM_number v0 v1 v2 M = some q) : ExM G l d 0 0 yM_number cM_number 4 (some .int) [.ref v0, .int v1, .int v2] M (some (.int q.1)) q.2 := by
  refine ex_of hG (by decide) (Nat.le_of_ble_eq_true rfl) ?_
  intro X hl C E N hD hn
  show ZM G X 0 [(0, .ref v0), (1, .int v1), (2, .int v2)] [] M 0 0
  unfold fM_number at h
  refine zz_aload_n C 0 ddM_number_0 rfl rfl ?_
  obtain ⟨h2, h⟩ := gdN h
  obtain ⟨q1, hq1, h⟩ := bindN h
  refine zz_callV0 (As := []) C ddM_number_1 wd_1303 my_M_ahead mv_M_ahead ⟨_, rfl, rfl⟩ (xM_ahead hG (d - 1) (by omega) hq1) (by omega) h2 rfl rfl (Nat.le_of_ble_eq_true rfl) ?_
  obtain ⟨q3, hq3, h⟩ := bindN h
  refine zz_callS0 (As := [.int q1.1]) C ddM_number_4 wd_1328 my_M_isDigit mv_M_isDigit (xM_isDigit hG (d - 1) (by omega) hq3) (by omega) rfl rfl (Nat.le_of_ble_eq_true rfl) ?_
  refine zz_if_ne (tgt := 16) C ddM_number_7 rfl (fun hc => ?_) (fun hc => ?_)
  · replace h := iteF h hc
    refine zz_aload_n C 0 ddM_number_16 rfl rfl ?_
    obtain ⟨h5, h⟩ := gdN h
    obtain ⟨q4, hq4, h⟩ := bindN h
    refine zz_callV0 (As := []) C ddM_number_17 wd_1307 my_M_here mv_M_here ⟨_, rfl, rfl⟩ (xM_here hG (d - 1) (by omega) hq4) (by omega) h5 rfl rfl (Nat.le_of_ble_eq_true rfl) ?_
    refine zz_bipush (v := 48) C ddM_number_20 (by decide) ?_
    refine zz_isub C ddM_number_22 ?_
    refine zz_istore_n (L1 := [(3, .int (q4.1 - 48)), (0, .ref v0), (1, .int v1), (2, .int v2)]) C ddM_number_23 rfl N (by decide) rfl ?_
    refine zz_aload_n C 1 ddM_number_24 rfl rfl ?_
    refine zz_dup C ddM_number_25 rfl ?_
    obtain ⟨h6, h⟩ := gdN h
    refine zz_geti C ddM_number_26 fl_M_79 rfl h6 ?_
    refine zz_iconst (v := 1) C ddM_number_29 (by decide) ?_
    refine zz_iadd C ddM_number_30 ?_
    refine zz_puti C ddM_number_31 fl_M_79 rfl rfl rfl h6 ?_
    refine zz_aload_n C 1 ddM_number_34 rfl rfl ?_
    obtain ⟨q7, hq7, h⟩ := bindN h
    refine zz_callV0 (As := []) C ddM_number_35 wd_1307 my_M_here mv_M_here ⟨_, rfl, rfl⟩ (xM_here hG (d - 1) (by omega) hq7) (by omega) h6 rfl rfl (Nat.le_of_ble_eq_true rfl) ?_
    obtain ⟨q8, hq8, h⟩ := bindN h
    refine zz_callS0 (As := [.int q7.1]) C ddM_number_38 wd_1328 my_M_isDigit mv_M_isDigit (xM_isDigit hG (d - 1) (by omega) hq8) (by omega) rfl rfl (Nat.le_of_ble_eq_true rfl) ?_
    refine zz_if_eq (tgt := 67) C ddM_number_41 rfl (fun hc => ?_) (fun hc => ?_)
    · replace h := iteT h hc
      refine zz_loc (L1 := [(0, .ref v0), (1, .int v1), (2, .int v2), (3, .int (q4.1 - 48))]) [1, 2, 3, 0] rfl ?_
      exact zBM_number_67 hG C N hD hd E h
    · replace h := iteF h hc
      refine zz_bipush (v := 10) C ddM_number_44 (by decide) ?_
      refine zz_iload_n C 0 ddM_number_46 rfl rfl ?_
      refine zz_imul C ddM_number_47 ?_
      refine zz_aload_n C 1 ddM_number_48 rfl rfl ?_
      obtain ⟨h10, h⟩ := gdN h
      obtain ⟨q9, hq9, h⟩ := bindN h
      refine zz_callV0 (As := []) C ddM_number_49 wd_1307 my_M_here mv_M_here ⟨_, rfl, rfl⟩ (xM_here hG (d - 1) (by omega) hq9) (by omega) h10 rfl rfl (Nat.le_of_ble_eq_true rfl) ?_
      refine zz_iadd C ddM_number_52 ?_
      refine zz_bipush (v := 48) C ddM_number_53 (by decide) ?_
      refine zz_isub C ddM_number_55 ?_
      refine zz_istore_n (L1 := [(3, .int (((10 * (q4.1 - 48)) + q9.1) - 48)), (0, .ref v0), (1, .int v1), (2, .int v2)]) C ddM_number_56 rfl N (by decide) rfl ?_
      refine zz_aload_n C 1 ddM_number_57 rfl rfl ?_
      refine zz_dup C ddM_number_58 rfl ?_
      obtain ⟨h11, h⟩ := gdN h
      refine zz_geti C ddM_number_59 fl_M_79 rfl h11 ?_
      refine zz_iconst (v := 1) C ddM_number_62 (by decide) ?_
      refine zz_iadd C ddM_number_63 ?_
      refine zz_puti C ddM_number_64 fl_M_79 rfl rfl rfl h11 ?_
      refine zz_loc (L1 := [(0, .ref v0), (1, .int v1), (2, .int v2), (3, .int (((10 * (q4.1 - 48)) + q9.1) - 48))]) [1, 2, 3, 0] rfl ?_
      exact zBM_number_67 hG C N hD hd E h
  · replace h := iteT h hc
    refine zz_aload_n C 0 ddM_number_10 rfl rfl ?_
    obtain ⟨h13, h⟩ := gdN h
    obtain ⟨q12, hq12, h⟩ := bindN h
    refine zz_callV0 (As := []) C ddM_number_11 wd_1331 my_M_bad mv_M_bad ⟨_, rfl, rfl⟩ (xM_bad hG (d - 1) (by omega) hq12) (by omega) h13 rfl rfl (Nat.le_of_ble_eq_true rfl) ?_
    refine zz_iload_n C 1 ddM_number_14 rfl rfl ?_
    obtain rfl := Option.some.inj h
    exact zz_iret C E ddM_number_15
theorem ddM_items_0 : decode cM_items 0 = .ok (.iconst 0, 1) := by decide +kernel
theorem ddM_items_1 : decode cM_items 1 = .ok (.istore 5, 2) := by decide +kernel
theorem ddM_items_3 : decode cM_items 3 = .ok (.iload 5, 2) := by decide +kernel
theorem ddM_items_5 : decode cM_items 5 = .ok (.iload 4, 2) := by decide +kernel
theorem ddM_items_7 : decode cM_items 7 = .ok (.if_icmp .ge 21, 3) := by decide +kernel
theorem ddM_items_10 : decode cM_items 10 = .ok (.aload_n 2, 1) := by decide +kernel
theorem ddM_items_11 : decode cM_items 11 = .ok (.iload_n 3, 1) := by decide +kernel
theorem ddM_items_12 : decode cM_items 12 = .ok (.iload 5, 2) := by decide +kernel
theorem ddM_items_14 : decode cM_items 14 = .ok (.iadd, 1) := by decide +kernel
theorem ddM_items_15 : decode cM_items 15 = .ok (.iload_n 1, 1) := by decide +kernel
theorem ddM_items_16 : decode cM_items 16 = .ok (.iload 5, 2) := by decide +kernel
theorem ddM_items_18 : decode cM_items 18 = .ok (.invokestatic 99, 3) := by decide +kernel
theorem ddM_items_21 : decode cM_items 21 = .ok (.iastore, 1) := by decide +kernel
theorem ddM_items_22 : decode cM_items 22 = .ok (.iinc 5 1, 3) := by decide +kernel
theorem ddM_items_25 : decode cM_items 25 = .ok (.goto (-22), 3) := by decide +kernel
theorem ddM_items_28 : decode cM_items 28 = .ok (.iconst 0, 1) := by decide +kernel
theorem ddM_items_29 : decode cM_items 29 = .ok (.istore 5, 2) := by decide +kernel
theorem ddM_items_31 : decode cM_items 31 = .ok (.iload_n 1, 1) := by decide +kernel
theorem ddM_items_32 : decode cM_items 32 = .ok (.aload_n 0, 1) := by decide +kernel
theorem ddM_items_33 : decode cM_items 33 = .ok (.invokevirtual 89, 3) := by decide +kernel
theorem ddM_items_36 : decode cM_items 36 = .ok (.invokestatic 103, 3) := by decide +kernel
theorem ddM_items_39 : decode cM_items 39 = .ok (.istore 6, 2) := by decide +kernel
theorem ddM_items_41 : decode cM_items 41 = .ok (.aload_n 0, 1) := by decide +kernel
theorem ddM_items_42 : decode cM_items 42 = .ok (.getfield 86, 3) := by decide +kernel
theorem ddM_items_45 : decode cM_items 45 = .ok (.iconst (-1), 1) := by decide +kernel
theorem ddM_items_46 : decode cM_items 46 = .ok (.if_icmp .ne 96, 3) := by decide +kernel
theorem ddM_items_49 : decode cM_items 49 = .ok (.iload 6, 2) := by decide +kernel
theorem ddM_items_51 : decode cM_items 51 = .ok (.iconst (-1), 1) := by decide +kernel
theorem ddM_items_52 : decode cM_items 52 = .ok (.if_icmp .eq 90, 3) := by decide +kernel
theorem ddM_items_55 : decode cM_items 55 = .ok (.iload 5, 2) := by decide +kernel
theorem ddM_items_57 : decode cM_items 57 = .ok (.iload 6, 2) := by decide +kernel
theorem ddM_items_59 : decode cM_items 59 = .ok (.invokestatic 106, 3) := by decide +kernel
theorem ddM_items_62 : decode cM_items 62 = .ok (.ifCond .ne 80, 3) := by decide +kernel
theorem ddM_items_65 : decode cM_items 65 = .ok (.iload 5, 2) := by decide +kernel
theorem ddM_items_67 : decode cM_items 67 = .ok (.iconst 1, 1) := by decide +kernel
theorem ddM_items_68 : decode cM_items 68 = .ok (.iload 6, 2) := by decide +kernel
theorem ddM_items_70 : decode cM_items 70 = .ok (.ishl, 1) := by decide +kernel
theorem ddM_items_71 : decode cM_items 71 = .ok (.ior, 1) := by decide +kernel
theorem ddM_items_72 : decode cM_items 72 = .ok (.istore 5, 2) := by decide +kernel
theorem ddM_items_74 : decode cM_items 74 = .ok (.aload_n 0, 1) := by decide +kernel
theorem ddM_items_75 : decode cM_items 75 = .ok (.dup, 1) := by decide +kernel
theorem ddM_items_76 : decode cM_items 76 = .ok (.getfield 79, 3) := by decide +kernel
theorem ddM_items_79 : decode cM_items 79 = .ok (.iconst 1, 1) := by decide +kernel
theorem ddM_items_80 : decode cM_items 80 = .ok (.iadd, 1) := by decide +kernel
theorem ddM_items_81 : decode cM_items 81 = .ok (.putfield 79, 3) := by decide +kernel
theorem ddM_items_84 : decode cM_items 84 = .ok (.aload_n 2, 1) := by decide +kernel
theorem ddM_items_85 : decode cM_items 85 = .ok (.iload_n 3, 1) := by decide +kernel
theorem ddM_items_86 : decode cM_items 86 = .ok (.iload 6, 2) := by decide +kernel
theorem ddM_items_88 : decode cM_items 88 = .ok (.iadd, 1) := by decide +kernel
theorem ddM_items_89 : decode cM_items 89 = .ok (.aload_n 0, 1) := by decide +kernel
theorem ddM_items_90 : decode cM_items 90 = .ok (.iload_n 1, 1) := by decide +kernel
theorem ddM_items_91 : decode cM_items 91 = .ok (.bipush 115, 2) := by decide +kernel
theorem ddM_items_93 : decode cM_items 93 = .ok (.if_icmp .ne 13, 3) := by decide +kernel
theorem ddM_items_96 : decode cM_items 96 = .ok (.iload 6, 2) := by decide +kernel
theorem ddM_items_98 : decode cM_items 98 = .ok (.iconst 2, 1) := by decide +kernel
theorem ddM_items_99 : decode cM_items 99 = .ok (.if_icmp .ne 7, 3) := by decide +kernel
theorem ddM_items_102 : decode cM_items 102 = .ok (.iconst 4, 1) := by decide +kernel
theorem ddM_items_103 : decode cM_items 103 = .ok (.goto 4, 3) := by decide +kernel
theorem ddM_items_106 : decode cM_items 106 = .ok (.iconst 1, 1) := by decide +kernel
theorem ddM_items_107 : decode cM_items 107 = .ok (.iload_n 1, 1) := by decide +kernel
theorem ddM_items_108 : decode cM_items 108 = .ok (.iload 6, 2) := by decide +kernel
theorem ddM_items_110 : decode cM_items 110 = .ok (.invokestatic 110, 3) := by decide +kernel
theorem ddM_items_113 : decode cM_items 113 = .ok (.invokevirtual 113, 3) := by decide +kernel
theorem ddM_items_116 : decode cM_items 116 = .ok (.iastore, 1) := by decide +kernel
theorem ddM_items_117 : decode cM_items 117 = .ok (.aload_n 0, 1) := by decide +kernel
theorem ddM_items_118 : decode cM_items 118 = .ok (.getfield 86, 3) := by decide +kernel
theorem ddM_items_121 : decode cM_items 121 = .ok (.iconst (-1), 1) := by decide +kernel
theorem ddM_items_122 : decode cM_items 122 = .ok (.if_icmp .ne 14, 3) := by decide +kernel
theorem ddM_items_125 : decode cM_items 125 = .ok (.iload_n 1, 1) := by decide +kernel
theorem ddM_items_126 : decode cM_items 126 = .ok (.aload_n 0, 1) := by decide +kernel
theorem ddM_items_127 : decode cM_items 127 = .ok (.invokevirtual 89, 3) := by decide +kernel
theorem ddM_items_130 : decode cM_items 130 = .ok (.invokestatic 103, 3) := by decide +kernel
theorem ddM_items_133 : decode cM_items 133 = .ok (.goto 4, 3) := by decide +kernel
theorem ddM_items_136 : decode cM_items 136 = .ok (.iconst (-1), 1) := by decide +kernel
theorem ddM_items_137 : decode cM_items 137 = .ok (.istore 6, 2) := by decide +kernel
theorem ddM_items_139 : decode cM_items 139 = .ok (.goto (-98), 3) := by decide +kernel
theorem ddM_items_142 : decode cM_items 142 = .ok (.return_, 1) := by decide +kernel
set_option maxHeartbeats 2000000 in
theorem zBM_items_142 {G : GXM} {X : CxM} (hG : GokM G) (C : CoM G X cM_items "HomeFreedModel") (N : mLM X = 7) {d : Nat} (hD : dpM X = d) (hd : 3 ≤ d)  {q : Mem} (E : EnM G X none none q 0 0) {M : Mem} (h : BM_items_142 M = some q) : ZM G X 142 [] [] M 0 0 := by
  unfold BM_items_142 at h
  obtain rfl := Option.some.inj h
  exact zz_vret C E ddM_items_142
set_option maxHeartbeats 2000000 in
theorem zBM_items_137 {G : GXM} {X : CxM} (hG : GokM G) (C : CoM G X cM_items "HomeFreedModel") (N : mLM X = 7) {d : Nat} (hD : dpM X = d) (hd : 3 ≤ d) {v0 : Nat} {v1 : Int32} {v2 : Nat} {v3 : Int32} {K : Nat → Int32 → Nat → Int32 → Int32 → Int32 → Mem → Option ((Mem))} {q : (Mem)} (hK : ∀ (v5 : Int32) (v6 : Int32) (M : Mem), K v0 v1 v2 v3 v5 v6 M = some q → ZM G X 41 [(0, .ref v0), (1, .int v1), (2, .ref v2), (3, .int v3), (5, .int v5), (6, .int v6)] [] M 0 0) (hx0 : ∀ y : Mem, q = y → ZM G X 142 [] [] y 0 0) {v5 : Int32} {w0 : Int32} {M : Mem} (h : BM_items_137 K v0 v1 v2 v3 v5 w0 M = some q) : ZM G X 137 [(0, .ref v0), (1, .int v1), (2, .ref v2), (3, .int v3), (5, .int v5)] [.int w0] M 0 0 := by
  unfold BM_items_137 at h
  refine zz_istore (L1 := [(6, .int w0), (0, .ref v0), (1, .int v1), (2, .ref v2), (3, .int v3), (5, .int v5)]) C ddM_items_137 N (by decide) rfl ?_
  refine zz_goto (tgt := 41) C ddM_items_139 rfl ?_
  refine zz_loc (L1 := [(0, .ref v0), (1, .int v1), (2, .ref v2), (3, .int v3), (5, .int v5), (6, .int w0)]) [1, 2, 3, 4, 5, 0] rfl ?_
  exact hK _ _ _ h
set_option maxHeartbeats 2000000 in
theorem zBM_items_107 {G : GXM} {X : CxM} (hG : GokM G) (C : CoM G X cM_items "HomeFreedModel") (N : mLM X = 7) {d : Nat} (hD : dpM X = d) (hd : 3 ≤ d) {v0 : Nat} {v1 : Int32} {v2 : Nat} {v3 : Int32} {K : Nat → Int32 → Nat → Int32 → Int32 → Int32 → Mem → Option ((Mem))} {q : (Mem)} (hK : ∀ (v5 : Int32) (v6 : Int32) (M : Mem), K v0 v1 v2 v3 v5 v6 M = some q → ZM G X 41 [(0, .ref v0), (1, .int v1), (2, .ref v2), (3, .int v3), (5, .int v5), (6, .int v6)] [] M 0 0) (hx0 : ∀ y : Mem, q = y → ZM G X 142 [] [] y 0 0) {v5 : Int32} {v6 : Int32} {w0 : Nat} {w1 : Int32} {w2 : Nat} {w3 : Int32} {M : Mem} (h : BM_items_107 K v0 v1 v2 v3 v5 v6 w0 w1 w2 w3 M = some q) : ZM G X 107 [(0, .ref v0), (1, .int v1), (2, .ref v2), (3, .int v3), (5, .int v5), (6, .int v6)] [.int w3, .ref w2, .int w1, .ref w0] M 0 0 := by
  unfold BM_items_107 at h
  refine zz_iload_n C 1 ddM_items_107 rfl rfl ?_
  refine zz_iload C 5 ddM_items_108 rfl ?_
  obtain ⟨q1, hq1, h⟩ := bindN h
  refine zz_callS0 (As := [.int v1, .int v6]) C ddM_items_110 wd_1321 my_M_highest mv_M_highest (xM_highest hG (d - 1) (by omega) hq1) (by omega) rfl rfl (Nat.le_of_ble_eq_true rfl) ?_
  obtain ⟨h3, h⟩ := gdN h
  obtain ⟨q2, hq2, h⟩ := bindN h
  refine zz_callV0 (As := [.int w3, .int q1.1]) C ddM_items_113 wd_1324 my_M_number mv_M_number ⟨_, rfl, rfl⟩ (xM_number hG (d - 1) (by omega) hq2) (by omega) h3 rfl rfl (Nat.le_of_ble_eq_true rfl) ?_
  obtain ⟨h4, h⟩ := gdN h
  refine zz_iastore C ddM_items_116 h4 ?_
  refine zz_aload_n C 0 ddM_items_117 rfl rfl ?_
  obtain ⟨h5, h⟩ := gdN h
  refine zz_geti C ddM_items_118 fl_M_86 rfl h5 ?_
  refine zz_iconst (v := (-1)) C ddM_items_121 (by decide) ?_
  refine zz_icmp_ne (tgt := 136) C ddM_items_122 rfl (fun hc => ?_) (fun hc => ?_)
  · replace h := iteF h hc
    refine zz_iconst (v := (-1)) C ddM_items_136 (by decide) ?_
    refine zz_loc (L1 := [(0, .ref v0), (1, .int v1), (2, .ref v2), (3, .int v3), (5, .int v5)]) [0, 1, 2, 3, 4] rfl ?_
    exact zBM_items_137 hG C N hD hd hK hx0 h
  · replace h := iteT h hc
    refine zz_iload_n C 1 ddM_items_125 rfl rfl ?_
    refine zz_aload_n C 0 ddM_items_126 rfl rfl ?_
    obtain ⟨q6, hq6, h⟩ := bindN h
    refine zz_callV0 (As := []) C ddM_items_127 wd_1303 my_M_ahead mv_M_ahead ⟨_, rfl, rfl⟩ (xM_ahead hG (d - 1) (by omega) hq6) (by omega) h5 rfl rfl (Nat.le_of_ble_eq_true rfl) ?_
    obtain ⟨q7, hq7, h⟩ := bindN h
    refine zz_callS0 (As := [.int v1, .int q6.1]) C ddM_items_130 wd_1315 my_M_itemOf mv_M_itemOf (xM_itemOf hG (d - 1) (by omega) hq7) (by omega) rfl rfl (Nat.le_of_ble_eq_true rfl) ?_
    refine zz_goto (tgt := 137) C ddM_items_133 rfl ?_
    refine zz_loc (L1 := [(0, .ref v0), (1, .int v1), (2, .ref v2), (3, .int v3), (5, .int v5)]) [0, 1, 2, 3, 4] rfl ?_
    exact zBM_items_137 hG C N hD hd hK hx0 h
set_option maxHeartbeats 2000000 in
theorem zBM_items_106 {G : GXM} {X : CxM} (hG : GokM G) (C : CoM G X cM_items "HomeFreedModel") (N : mLM X = 7) {d : Nat} (hD : dpM X = d) (hd : 3 ≤ d) {v0 : Nat} {v1 : Int32} {v2 : Nat} {v3 : Int32} {K : Nat → Int32 → Nat → Int32 → Int32 → Int32 → Mem → Option ((Mem))} {q : (Mem)} (hK : ∀ (v5 : Int32) (v6 : Int32) (M : Mem), K v0 v1 v2 v3 v5 v6 M = some q → ZM G X 41 [(0, .ref v0), (1, .int v1), (2, .ref v2), (3, .int v3), (5, .int v5), (6, .int v6)] [] M 0 0) (hx0 : ∀ y : Mem, q = y → ZM G X 142 [] [] y 0 0) {v5 : Int32} {v6 : Int32} {w0 : Nat} {w1 : Int32} {w2 : Nat} {M : Mem} (h : BM_items_106 K v0 v1 v2 v3 v5 v6 w0 w1 w2 M = some q) : ZM G X 106 [(0, .ref v0), (1, .int v1), (2, .ref v2), (3, .int v3), (5, .int v5), (6, .int v6)] [.ref w2, .int w1, .ref w0] M 0 0 := by
  unfold BM_items_106 at h
  refine zz_iconst (v := 1) C ddM_items_106 (by decide) ?_
  exact zBM_items_107 hG C N hD hd hK hx0 h
set_option maxHeartbeats 2000000 in
theorem zBM_items_41 {G : GXM} {X : CxM} (hG : GokM G) (C : CoM G X cM_items "HomeFreedModel") (N : mLM X = 7) {d : Nat} (hD : dpM X = d) (hd : 3 ≤ d) {v0 : Nat} {v1 : Int32} {v2 : Nat} {v3 : Int32} {K : Nat → Int32 → Nat → Int32 → Int32 → Int32 → Mem → Option ((Mem))} {q : (Mem)} (hK : ∀ (v5 : Int32) (v6 : Int32) (M : Mem), K v0 v1 v2 v3 v5 v6 M = some q → ZM G X 41 [(0, .ref v0), (1, .int v1), (2, .ref v2), (3, .int v3), (5, .int v5), (6, .int v6)] [] M 0 0) (hx0 : ∀ y : Mem, q = y → ZM G X 142 [] [] y 0 0) {v5 : Int32} {v6 : Int32} {M : Mem} (h : BM_items_41 K v0 v1 v2 v3 v5 v6 M = some q) : ZM G X 41 [(0, .ref v0), (1, .int v1), (2, .ref v2), (3, .int v3), (5, .int v5), (6, .int v6)] [] M 0 0 := by
  unfold BM_items_41 at h
  refine zz_aload_n C 0 ddM_items_41 rfl rfl ?_
  obtain ⟨h1, h⟩ := gdN h
  refine zz_geti C ddM_items_42 fl_M_86 rfl h1 ?_
  refine zz_iconst (v := (-1)) C ddM_items_45 (by decide) ?_
  refine zz_icmp_ne (tgt := 142) C ddM_items_46 rfl (fun hc => ?_) (fun hc => ?_)
  · replace h := iteF h hc
    refine zz_loc (L1 := []) [] rfl ?_
    exact hx0 _ (Option.some.inj h).symm
  · replace h := iteT h hc
    refine zz_iload C 5 ddM_items_49 rfl ?_
    refine zz_iconst (v := (-1)) C ddM_items_51 (by decide) ?_
    refine zz_icmp_eq (tgt := 142) C ddM_items_52 rfl (fun hc => ?_) (fun hc => ?_)
    · replace h := iteT h hc
      refine zz_loc (L1 := []) [] rfl ?_
      exact hx0 _ (Option.some.inj h).symm
    · replace h := iteF h hc
      refine zz_iload C 4 ddM_items_55 rfl ?_
      refine zz_iload C 5 ddM_items_57 rfl ?_
      obtain ⟨q2, hq2, h⟩ := bindN h
      refine zz_callS0 (As := [.int v5, .int v6]) C ddM_items_59 wd_1318 my_M_has mv_M_has (xM_has hG (d - 1) (by omega) hq2) (by omega) rfl rfl (Nat.le_of_ble_eq_true rfl) ?_
      refine zz_if_ne (tgt := 142) C ddM_items_62 rfl (fun hc => ?_) (fun hc => ?_)
      · replace h := iteF h hc
        refine zz_loc (L1 := []) [] rfl ?_
        exact hx0 _ (Option.some.inj h).symm
      · replace h := iteT h hc
        refine zz_iload C 4 ddM_items_65 rfl ?_
        refine zz_iconst (v := 1) C ddM_items_67 (by decide) ?_
        refine zz_iload C 5 ddM_items_68 rfl ?_
        refine zz_ishl C ddM_items_70 ?_
        refine zz_ior C ddM_items_71 ?_
        refine zz_istore (L1 := [(5, .int (v5 ||| (1 <<< (v6 &&& 31)))), (0, .ref v0), (1, .int v1), (2, .ref v2), (3, .int v3), (6, .int v6)]) C ddM_items_72 N (by decide) rfl ?_
        refine zz_aload_n C 1 ddM_items_74 rfl rfl ?_
        refine zz_dup C ddM_items_75 rfl ?_
        obtain ⟨h3, h⟩ := gdN h
        refine zz_geti C ddM_items_76 fl_M_79 rfl h3 ?_
        refine zz_iconst (v := 1) C ddM_items_79 (by decide) ?_
        refine zz_iadd C ddM_items_80 ?_
        refine zz_puti C ddM_items_81 fl_M_79 rfl rfl rfl h3 ?_
        refine zz_aload_n C 3 ddM_items_84 rfl rfl ?_
        refine zz_iload_n C 4 ddM_items_85 rfl rfl ?_
        refine zz_iload C 5 ddM_items_86 rfl ?_
        refine zz_iadd C ddM_items_88 ?_
        refine zz_aload_n C 1 ddM_items_89 rfl rfl ?_
        refine zz_iload_n C 2 ddM_items_90 rfl rfl ?_
        refine zz_bipush (v := 115) C ddM_items_91 (by decide) ?_
        refine zz_icmp_ne (tgt := 106) C ddM_items_93 rfl (fun hc => ?_) (fun hc => ?_)
        · replace h := iteF h hc
          refine zz_loc (L1 := [(0, .ref v0), (1, .int v1), (2, .ref v2), (3, .int v3), (5, .int (v5 ||| (1 <<< (v6 &&& 31)))), (6, .int v6)]) [1, 2, 3, 4, 0, 5] rfl ?_
          exact zBM_items_106 hG C N hD hd hK hx0 h
        · replace h := iteT h hc
          refine zz_iload C 5 ddM_items_96 rfl ?_
          refine zz_iconst (v := 2) C ddM_items_98 (by decide) ?_
          refine zz_icmp_ne (tgt := 106) C ddM_items_99 rfl (fun hc => ?_) (fun hc => ?_)
          · replace h := iteF h hc
            refine zz_loc (L1 := [(0, .ref v0), (1, .int v1), (2, .ref v2), (3, .int v3), (5, .int (v5 ||| (1 <<< (v6 &&& 31)))), (6, .int v6)]) [1, 2, 3, 4, 0, 5] rfl ?_
            exact zBM_items_106 hG C N hD hd hK hx0 h
          · replace h := iteT h hc
            refine zz_iconst (v := 4) C ddM_items_102 (by decide) ?_
            refine zz_goto (tgt := 107) C ddM_items_103 rfl ?_
            refine zz_loc (L1 := [(0, .ref v0), (1, .int v1), (2, .ref v2), (3, .int v3), (5, .int (v5 ||| (1 <<< (v6 &&& 31)))), (6, .int v6)]) [1, 2, 3, 4, 0, 5] rfl ?_
            exact zBM_items_107 hG C N hD hd hK hx0 h
set_option maxHeartbeats 2000000 in
theorem zLM_items_41 {G : GXM} {X : CxM} (hG : GokM G) (C : CoM G X cM_items "HomeFreedModel") (N : mLM X = 7) {d : Nat} (hD : dpM X = d) (hd : 3 ≤ d) {v0 : Nat} {v1 : Int32} {v2 : Nat} {v3 : Int32} {q : (Mem)} : ∀ (f : Nat) (v5 : Int32) (v6 : Int32) (M : Mem), LM_items_41 f v0 v1 v2 v3 v5 v6 M = some q → (hx0 : ∀ y : Mem, q = y → ZM G X 142 [] [] y 0 0) → ZM G X 41 [(0, .ref v0), (1, .int v1), (2, .ref v2), (3, .int v3), (5, .int v5), (6, .int v6)] [] M 0 0 := by
  intro f
  induction f with
  | zero => intro v5 v6 M h; cases h
  | succ f ih =>
    intro v5 v6 M h hx0
    exact zBM_items_41 hG C N hD hd (K := LM_items_41 f) (q := q) (fun v5 v6 M h => ih v5 v6 M h hx0) hx0 h
set_option maxHeartbeats 2000000 in
theorem zBM_items_3 {G : GXM} {X : CxM} (hG : GokM G) (C : CoM G X cM_items "HomeFreedModel") (N : mLM X = 7) {d : Nat} (hD : dpM X = d) (hd : 3 ≤ d) {v0 : Nat} {v1 : Int32} {v2 : Nat} {v3 : Int32} {v4 : Int32} {K : Nat → Int32 → Nat → Int32 → Int32 → Int32 → Mem → Option ((Mem))} {q : (Mem)} (hK : ∀ (v5 : Int32) (M : Mem), K v0 v1 v2 v3 v4 v5 M = some q → ZM G X 3 [(0, .ref v0), (1, .int v1), (2, .ref v2), (3, .int v3), (4, .int v4), (5, .int v5)] [] M 0 0) (hx0 : ∀ y : Mem, q = y → ZM G X 28 [(0, .ref v0), (1, .int v1), (2, .ref v2), (3, .int v3)] [] y 0 0) {v5 : Int32} {M : Mem} (h : BM_items_3 K v0 v1 v2 v3 v4 v5 M = some q) : ZM G X 3 [(0, .ref v0), (1, .int v1), (2, .ref v2), (3, .int v3), (4, .int v4), (5, .int v5)] [] M 0 0 := by
  unfold BM_items_3 at h
  refine zz_iload C 5 ddM_items_3 rfl ?_
  refine zz_iload C 4 ddM_items_5 rfl ?_
  refine zz_icmp_ge (tgt := 28) C ddM_items_7 rfl (fun hc => ?_) (fun hc => ?_)
  · replace h := iteT h hc
    refine zz_loc (L1 := [(0, .ref v0), (1, .int v1), (2, .ref v2), (3, .int v3)]) [0, 1, 2, 3] rfl ?_
    exact hx0 _ (Option.some.inj h).symm
  · replace h := iteF h hc
    refine zz_aload_n C 2 ddM_items_10 rfl rfl ?_
    refine zz_iload_n C 3 ddM_items_11 rfl rfl ?_
    refine zz_iload C 5 ddM_items_12 rfl ?_
    refine zz_iadd C ddM_items_14 ?_
    refine zz_iload_n C 1 ddM_items_15 rfl rfl ?_
    refine zz_iload C 5 ddM_items_16 rfl ?_
    obtain ⟨q1, hq1, h⟩ := bindN h
    refine zz_callS0 (As := [.int v1, .int v5]) C ddM_items_18 wd_1300 my_M_usual mv_M_usual (xM_usual hG (d - 1) (by omega) hq1) (by omega) rfl rfl (Nat.le_of_ble_eq_true rfl) ?_
    obtain ⟨h2, h⟩ := gdN h
    refine zz_iastore C ddM_items_21 h2 ?_
    refine zz_iinc (v := v5 + 1) (L1 := [(5, .int (v5 + 1)), (0, .ref v0), (1, .int v1), (2, .ref v2), (3, .int v3), (4, .int v4)]) C 5 ddM_items_22 rfl rfl N (by decide) rfl ?_
    refine zz_goto (tgt := 3) C ddM_items_25 rfl ?_
    refine zz_loc (L1 := [(0, .ref v0), (1, .int v1), (2, .ref v2), (3, .int v3), (4, .int v4), (5, .int (v5 + 1))]) [1, 2, 3, 4, 5, 0] rfl ?_
    exact hK _ _ h
set_option maxHeartbeats 2000000 in
theorem zLM_items_3 {G : GXM} {X : CxM} (hG : GokM G) (C : CoM G X cM_items "HomeFreedModel") (N : mLM X = 7) {d : Nat} (hD : dpM X = d) (hd : 3 ≤ d) {v0 : Nat} {v1 : Int32} {v2 : Nat} {v3 : Int32} {v4 : Int32} {q : (Mem)} : ∀ (f : Nat) (v5 : Int32) (M : Mem), LM_items_3 f v0 v1 v2 v3 v4 v5 M = some q → (hx0 : ∀ y : Mem, q = y → ZM G X 28 [(0, .ref v0), (1, .int v1), (2, .ref v2), (3, .int v3)] [] y 0 0) → ZM G X 3 [(0, .ref v0), (1, .int v1), (2, .ref v2), (3, .int v3), (4, .int v4), (5, .int v5)] [] M 0 0 := by
  intro f
  induction f with
  | zero => intro v5 M h; cases h
  | succ f ih =>
    intro v5 M h hx0
    exact zBM_items_3 hG C N hD hd (K := LM_items_3 f) (q := q) (fun v5 M h => ih v5 M h hx0) hx0 h
set_option maxHeartbeats 2000000 in
theorem xM_items {G : GXM} {l : Launch} (hG : GokM G) (d : Nat) (hd : 3 ≤ d) {v0 : Nat} {v1 : Int32} {v2 : Nat} {v3 : Int32} {v4 : Int32} {M : Mem} {q : Mem} (h : fM_items v0 v1 v2 v3 v4 M = some q) : ExM G l d 0 0 yM_items cM_items 7 none [.ref v0, .int v1, .ref v2, .int v3, .int v4] M none q := by
  refine ex_of hG (by decide) (Nat.le_of_ble_eq_true rfl) ?_
  intro X hl C E N hD hn
  show ZM G X 0 [(5, .int v5), (0, .ref v0), (1, .int v1), (2, .ref v2), (3, .int v3), (4, .int v4)] [] M 0 0
  unfold fM_items at h
  refine zz_iconst (v := 0) C ddM_items_0 (by decide) ?_
  refine zz_istore (L1 := [(5, .int 0), (0, .ref v0), (1, .int v1), (2, .ref v2), (3, .int v3), (4, .int v4)]) C ddM_items_1 N (by decide) rfl ?_
  refine zz_loc (L1 := [(0, .ref v0), (1, .int v1), (2, .ref v2), (3, .int v3), (4, .int v4), (5, .int 0)]) [1, 2, 3, 4, 5, 0] rfl ?_
  obtain ⟨q1, hq1, h⟩ := bindN h
  refine zLM_items_3 hG C N hD hd 1000000 _ _ hq1 ?_
  · intro y2 eq1; subst eq1
    refine zz_iconst (v := 0) C ddM_items_28 (by decide) ?_
    refine zz_istore (L1 := [(5, .int 0), (0, .ref v0), (1, .int v1), (2, .ref v2), (3, .int v3)]) C ddM_items_29 N (by decide) rfl ?_
    refine zz_iload_n C 2 ddM_items_31 rfl rfl ?_
    refine zz_aload_n C 1 ddM_items_32 rfl rfl ?_
    obtain ⟨h4, h⟩ := gdN h
    obtain ⟨q3, hq3, h⟩ := bindN h
    refine zz_callV0 (As := []) C ddM_items_33 wd_1303 my_M_ahead mv_M_ahead ⟨_, rfl, rfl⟩ (xM_ahead hG (d - 1) (by omega) hq3) (by omega) h4 rfl rfl (Nat.le_of_ble_eq_true rfl) ?_
    obtain ⟨q5, hq5, h⟩ := bindN h
    refine zz_callS0 (As := [.int v1, .int q3.1]) C ddM_items_36 wd_1315 my_M_itemOf mv_M_itemOf (xM_itemOf hG (d - 1) (by omega) hq5) (by omega) rfl rfl (Nat.le_of_ble_eq_true rfl) ?_
    refine zz_istore (L1 := [(6, .int q5.1), (5, .int 0), (0, .ref v0), (1, .int v1), (2, .ref v2), (3, .int v3)]) C ddM_items_39 N (by decide) rfl ?_
    refine zz_loc (L1 := [(0, .ref v0), (1, .int v1), (2, .ref v2), (3, .int v3), (5, .int 0), (6, .int q5.1)]) [2, 3, 4, 5, 1, 0] rfl ?_
    obtain ⟨q6, hq6, h⟩ := bindN h
    refine zLM_items_41 hG C N hD hd 1000000 _ _ _ hq6 ?_
    · intro y7 eq6; subst eq6
      exact zBM_items_142 hG C N hD hd E h
theorem ddM_isWhole_0 : decode cM_isWhole 0 = .ok (.aload_n 0, 1) := by decide +kernel
theorem ddM_isWhole_1 : decode cM_isWhole 1 = .ok (.getfield 116, 3) := by decide +kernel
theorem ddM_isWhole_4 : decode cM_isWhole 4 = .ok (.ifCond .le 7, 3) := by decide +kernel
theorem ddM_isWhole_7 : decode cM_isWhole 7 = .ok (.iconst 1, 1) := by decide +kernel
theorem ddM_isWhole_8 : decode cM_isWhole 8 = .ok (.goto 4, 3) := by decide +kernel
theorem ddM_isWhole_11 : decode cM_isWhole 11 = .ok (.iconst 0, 1) := by decide +kernel
theorem ddM_isWhole_12 : decode cM_isWhole 12 = .ok (.istore_n 1, 1) := by decide +kernel
theorem ddM_isWhole_13 : decode cM_isWhole 13 = .ok (.iconst 0, 1) := by decide +kernel
theorem ddM_isWhole_14 : decode cM_isWhole 14 = .ok (.istore_n 2, 1) := by decide +kernel
theorem ddM_isWhole_15 : decode cM_isWhole 15 = .ok (.iload_n 2, 1) := by decide +kernel
theorem ddM_isWhole_16 : decode cM_isWhole 16 = .ok (.aload_n 0, 1) := by decide +kernel
theorem ddM_isWhole_17 : decode cM_isWhole 17 = .ok (.getfield 116, 3) := by decide +kernel
theorem ddM_isWhole_20 : decode cM_isWhole 20 = .ok (.if_icmp .ge 55, 3) := by decide +kernel
theorem ddM_isWhole_23 : decode cM_isWhole 23 = .ok (.iload_n 1, 1) := by decide +kernel
theorem ddM_isWhole_24 : decode cM_isWhole 24 = .ok (.ifCond .eq 43, 3) := by decide +kernel
theorem ddM_isWhole_27 : decode cM_isWhole 27 = .ok (.aload_n 0, 1) := by decide +kernel
theorem ddM_isWhole_28 : decode cM_isWhole 28 = .ok (.getfield 16, 3) := by decide +kernel
theorem ddM_isWhole_31 : decode cM_isWhole 31 = .ok (.iload_n 2, 1) := by decide +kernel
theorem ddM_isWhole_32 : decode cM_isWhole 32 = .ok (.iaload, 1) := by decide +kernel
theorem ddM_isWhole_33 : decode cM_isWhole 33 = .ok (.aload_n 0, 1) := by decide +kernel
theorem ddM_isWhole_34 : decode cM_isWhole 34 = .ok (.getfield 13, 3) := by decide +kernel
theorem ddM_isWhole_37 : decode cM_isWhole 37 = .ok (.iconst 2, 1) := by decide +kernel
theorem ddM_isWhole_38 : decode cM_isWhole 38 = .ok (.iaload, 1) := by decide +kernel
theorem ddM_isWhole_39 : decode cM_isWhole 39 = .ok (.if_icmp .gt 28, 3) := by decide +kernel
theorem ddM_isWhole_42 : decode cM_isWhole 42 = .ok (.iload_n 2, 1) := by decide +kernel
theorem ddM_isWhole_43 : decode cM_isWhole 43 = .ok (.ifCond .eq 20, 3) := by decide +kernel
theorem ddM_isWhole_46 : decode cM_isWhole 46 = .ok (.aload_n 0, 1) := by decide +kernel
theorem ddM_isWhole_47 : decode cM_isWhole 47 = .ok (.getfield 16, 3) := by decide +kernel
theorem ddM_isWhole_50 : decode cM_isWhole 50 = .ok (.iload_n 2, 1) := by decide +kernel
theorem ddM_isWhole_51 : decode cM_isWhole 51 = .ok (.iaload, 1) := by decide +kernel
theorem ddM_isWhole_52 : decode cM_isWhole 52 = .ok (.aload_n 0, 1) := by decide +kernel
theorem ddM_isWhole_53 : decode cM_isWhole 53 = .ok (.getfield 16, 3) := by decide +kernel
theorem ddM_isWhole_56 : decode cM_isWhole 56 = .ok (.iload_n 2, 1) := by decide +kernel
theorem ddM_isWhole_57 : decode cM_isWhole 57 = .ok (.iconst 1, 1) := by decide +kernel
theorem ddM_isWhole_58 : decode cM_isWhole 58 = .ok (.isub, 1) := by decide +kernel
theorem ddM_isWhole_59 : decode cM_isWhole 59 = .ok (.iaload, 1) := by decide +kernel
theorem ddM_isWhole_60 : decode cM_isWhole 60 = .ok (.if_icmp .le 7, 3) := by decide +kernel
theorem ddM_isWhole_63 : decode cM_isWhole 63 = .ok (.iconst 1, 1) := by decide +kernel
theorem ddM_isWhole_64 : decode cM_isWhole 64 = .ok (.goto 4, 3) := by decide +kernel
theorem ddM_isWhole_67 : decode cM_isWhole 67 = .ok (.iconst 0, 1) := by decide +kernel
theorem ddM_isWhole_68 : decode cM_isWhole 68 = .ok (.istore_n 1, 1) := by decide +kernel
theorem ddM_isWhole_69 : decode cM_isWhole 69 = .ok (.iinc 2 1, 3) := by decide +kernel
theorem ddM_isWhole_72 : decode cM_isWhole 72 = .ok (.goto (-57), 3) := by decide +kernel
theorem ddM_isWhole_75 : decode cM_isWhole 75 = .ok (.iload_n 1, 1) := by decide +kernel
theorem ddM_isWhole_76 : decode cM_isWhole 76 = .ok (.ireturn, 1) := by decide +kernel
set_option maxHeartbeats 2000000 in
theorem zBM_isWhole_68 {G : GXM} {X : CxM} (hG : GokM G) (C : CoM G X cM_isWhole "HomeFreedModel") (N : mLM X = 3) {d : Nat} (hD : dpM X = d) (hd : 0 ≤ d) {v0 : Nat} {K : Nat → Int32 → Int32 → Mem → Option ((Int32 × Mem))} {q : (Int32 × Mem)} (hK : ∀ (v1 : Int32) (v2 : Int32) (M : Mem), K v0 v1 v2 M = some q → ZM G X 15 [(0, .ref v0), (1, .int v1), (2, .int v2)] [] M 0 0) (hr : ∀ r : Int32 × Mem, q =  r → EnM G X (some .boolean) (some (.int r.1)) r.2 0 0) {v2 : Int32} {w0 : Int32} {M : Mem} (h : BM_isWhole_68 K v0 v2 w0 M = some q) : ZM G X 68 [(0, .ref v0), (2, .int v2)] [.int w0] M 0 0 := by
  unfold BM_isWhole_68 at h
  refine zz_istore_n (L1 := [(1, .int w0), (0, .ref v0), (2, .int v2)]) C ddM_isWhole_68 rfl N (by decide) rfl ?_
  refine zz_iinc (v := v2 + 1) (L1 := [(2, .int (v2 + 1)), (1, .int w0), (0, .ref v0)]) C 2 ddM_isWhole_69 rfl rfl N (by decide) rfl ?_
  refine zz_goto (tgt := 15) C ddM_isWhole_72 rfl ?_
  refine zz_loc (L1 := [(0, .ref v0), (1, .int w0), (2, .int (v2 + 1))]) [2, 1, 0] rfl ?_
  exact hK _ _ _ h
set_option maxHeartbeats 2000000 in
theorem zBM_isWhole_67 {G : GXM} {X : CxM} (hG : GokM G) (C : CoM G X cM_isWhole "HomeFreedModel") (N : mLM X = 3) {d : Nat} (hD : dpM X = d) (hd : 0 ≤ d) {v0 : Nat} {K : Nat → Int32 → Int32 → Mem → Option ((Int32 × Mem))} {q : (Int32 × Mem)} (hK : ∀ (v1 : Int32) (v2 : Int32) (M : Mem), K v0 v1 v2 M = some q → ZM G X 15 [(0, .ref v0), (1, .int v1), (2, .int v2)] [] M 0 0) (hr : ∀ r : Int32 × Mem, q =  r → EnM G X (some .boolean) (some (.int r.1)) r.2 0 0) {v2 : Int32} {M : Mem} (h : BM_isWhole_67 K v0 v2 M = some q) : ZM G X 67 [(0, .ref v0), (2, .int v2)] [] M 0 0 := by
  unfold BM_isWhole_67 at h
  refine zz_iconst (v := 0) C ddM_isWhole_67 (by decide) ?_
  exact zBM_isWhole_68 hG C N hD hd hK hr h
set_option maxHeartbeats 2000000 in
theorem zBM_isWhole_63 {G : GXM} {X : CxM} (hG : GokM G) (C : CoM G X cM_isWhole "HomeFreedModel") (N : mLM X = 3) {d : Nat} (hD : dpM X = d) (hd : 0 ≤ d) {v0 : Nat} {K : Nat → Int32 → Int32 → Mem → Option ((Int32 × Mem))} {q : (Int32 × Mem)} (hK : ∀ (v1 : Int32) (v2 : Int32) (M : Mem), K v0 v1 v2 M = some q → ZM G X 15 [(0, .ref v0), (1, .int v1), (2, .int v2)] [] M 0 0) (hr : ∀ r : Int32 × Mem, q =  r → EnM G X (some .boolean) (some (.int r.1)) r.2 0 0) {v2 : Int32} {M : Mem} (h : BM_isWhole_63 K v0 v2 M = some q) : ZM G X 63 [(0, .ref v0), (2, .int v2)] [] M 0 0 := by
  unfold BM_isWhole_63 at h
  refine zz_iconst (v := 1) C ddM_isWhole_63 (by decide) ?_
  refine zz_goto (tgt := 68) C ddM_isWhole_64 rfl ?_
  exact zBM_isWhole_68 hG C N hD hd hK hr h
set_option maxHeartbeats 2000000 in
theorem zBM_isWhole_15 {G : GXM} {X : CxM} (hG : GokM G) (C : CoM G X cM_isWhole "HomeFreedModel") (N : mLM X = 3) {d : Nat} (hD : dpM X = d) (hd : 0 ≤ d) {v0 : Nat} {K : Nat → Int32 → Int32 → Mem → Option ((Int32 × Mem))} {q : (Int32 × Mem)} (hK : ∀ (v1 : Int32) (v2 : Int32) (M : Mem), K v0 v1 v2 M = some q → ZM G X 15 [(0, .ref v0), (1, .int v1), (2, .int v2)] [] M 0 0) (hr : ∀ r : Int32 × Mem, q =  r → EnM G X (some .boolean) (some (.int r.1)) r.2 0 0) {v1 : Int32} {v2 : Int32} {M : Mem} (h : BM_isWhole_15 K v0 v1 v2 M = some q) : ZM G X 15 [(0, .ref v0), (1, .int v1), (2, .int v2)] [] M 0 0 := by
  unfold BM_isWhole_15 at h
  refine zz_iload_n C 2 ddM_isWhole_15 rfl rfl ?_
  refine zz_aload_n C 0 ddM_isWhole_16 rfl rfl ?_
  obtain ⟨h1, h⟩ := gdN h
  refine zz_geti C ddM_isWhole_17 fl_M_116 rfl h1 ?_
  refine zz_icmp_ge (tgt := 75) C ddM_isWhole_20 rfl (fun hc => ?_) (fun hc => ?_)
  · replace h := iteT h hc
    refine zz_iload_n C 1 ddM_isWhole_75 rfl rfl ?_
    obtain ⟨h2, h⟩ := gdN h
    exact zz_zret C (of_decide_eq_true h2) (hr _ (Option.some.inj h).symm) ddM_isWhole_76
  · replace h := iteF h hc
    refine zz_iload_n C 1 ddM_isWhole_23 rfl rfl ?_
    refine zz_if_eq (tgt := 67) C ddM_isWhole_24 rfl (fun hc => ?_) (fun hc => ?_)
    · replace h := iteT h hc
      refine zz_loc (L1 := [(0, .ref v0), (2, .int v2)]) [0, 2] rfl ?_
      exact zBM_isWhole_67 hG C N hD hd hK hr h
    · replace h := iteF h hc
      refine zz_aload_n C 0 ddM_isWhole_27 rfl rfl ?_
      obtain ⟨h3, h⟩ := gdN h
      refine zz_getr C ddM_isWhole_28 fl_M_16 rfl h1 (of_decide_eq_true h3) ?_
      refine zz_iload_n C 2 ddM_isWhole_31 rfl rfl ?_
      obtain ⟨h4, h⟩ := gdN h
      refine zz_iaload C ddM_isWhole_32 h4 ?_
      refine zz_aload_n C 0 ddM_isWhole_33 rfl rfl ?_
      obtain ⟨h5, h⟩ := gdN h
      refine zz_getr C ddM_isWhole_34 fl_M_13 rfl h1 (of_decide_eq_true h5) ?_
      refine zz_iconst (v := 2) C ddM_isWhole_37 (by decide) ?_
      obtain ⟨h6, h⟩ := gdN h
      refine zz_iaload C ddM_isWhole_38 h6 ?_
      refine zz_icmp_gt (tgt := 67) C ddM_isWhole_39 rfl (fun hc => ?_) (fun hc => ?_)
      · replace h := iteT h hc
        refine zz_loc (L1 := [(0, .ref v0), (2, .int v2)]) [0, 2] rfl ?_
        exact zBM_isWhole_67 hG C N hD hd hK hr h
      · replace h := iteF h hc
        refine zz_iload_n C 2 ddM_isWhole_42 rfl rfl ?_
        refine zz_if_eq (tgt := 63) C ddM_isWhole_43 rfl (fun hc => ?_) (fun hc => ?_)
        · replace h := iteT h hc
          refine zz_loc (L1 := [(0, .ref v0), (2, .int v2)]) [0, 2] rfl ?_
          exact zBM_isWhole_63 hG C N hD hd hK hr h
        · replace h := iteF h hc
          refine zz_aload_n C 0 ddM_isWhole_46 rfl rfl ?_
          refine zz_getr C ddM_isWhole_47 fl_M_16 rfl h1 (of_decide_eq_true h3) ?_
          refine zz_iload_n C 2 ddM_isWhole_50 rfl rfl ?_
          refine zz_iaload C ddM_isWhole_51 h4 ?_
          refine zz_aload_n C 0 ddM_isWhole_52 rfl rfl ?_
          refine zz_getr C ddM_isWhole_53 fl_M_16 rfl h1 (of_decide_eq_true h3) ?_
          refine zz_iload_n C 2 ddM_isWhole_56 rfl rfl ?_
          refine zz_iconst (v := 1) C ddM_isWhole_57 (by decide) ?_
          refine zz_isub C ddM_isWhole_58 ?_
          obtain ⟨h7, h⟩ := gdN h
          refine zz_iaload C ddM_isWhole_59 h7 ?_
          refine zz_icmp_le (tgt := 67) C ddM_isWhole_60 rfl (fun hc => ?_) (fun hc => ?_)
          · replace h := iteT h hc
            refine zz_loc (L1 := [(0, .ref v0), (2, .int v2)]) [0, 2] rfl ?_
            exact zBM_isWhole_67 hG C N hD hd hK hr h
          · replace h := iteF h hc
            refine zz_loc (L1 := [(0, .ref v0), (2, .int v2)]) [0, 2] rfl ?_
            exact zBM_isWhole_63 hG C N hD hd hK hr h
set_option maxHeartbeats 2000000 in
theorem zLM_isWhole_15 {G : GXM} {X : CxM} (hG : GokM G) (C : CoM G X cM_isWhole "HomeFreedModel") (N : mLM X = 3) {d : Nat} (hD : dpM X = d) (hd : 0 ≤ d) {v0 : Nat} {q : (Int32 × Mem)} : ∀ (f : Nat) (v1 : Int32) (v2 : Int32) (M : Mem), LM_isWhole_15 f v0 v1 v2 M = some q → (hr : ∀ r : Int32 × Mem, q =  r → EnM G X (some .boolean) (some (.int r.1)) r.2 0 0) → ZM G X 15 [(0, .ref v0), (1, .int v1), (2, .int v2)] [] M 0 0 := by
  intro f
  induction f with
  | zero => intro v1 v2 M h; cases h
  | succ f ih =>
    intro v1 v2 M h hr
    exact zBM_isWhole_15 hG C N hD hd (K := LM_isWhole_15 f) (q := q) (fun v1 v2 M h => ih v1 v2 M h hr) hr h
set_option maxHeartbeats 2000000 in
theorem zBM_isWhole_12 {G : GXM} {X : CxM} (hG : GokM G) (C : CoM G X cM_isWhole "HomeFreedModel") (N : mLM X = 3) {d : Nat} (hD : dpM X = d) (hd : 0 ≤ d)  {q : Int32 × Mem} (E : EnM G X (some .boolean) (some (.int q.1)) q.2 0 0) {v0 : Nat} {w0 : Int32} {M : Mem} (h : BM_isWhole_12 v0 w0 M = some q) : ZM G X 12 [(0, .ref v0)] [.int w0] M 0 0 := by
  unfold BM_isWhole_12 at h
  refine zz_istore_n (L1 := [(1, .int w0), (0, .ref v0)]) C ddM_isWhole_12 rfl N (by decide) rfl ?_
  refine zz_iconst (v := 0) C ddM_isWhole_13 (by decide) ?_
  refine zz_istore_n (L1 := [(2, .int 0), (1, .int w0), (0, .ref v0)]) C ddM_isWhole_14 rfl N (by decide) rfl ?_
  refine zz_loc (L1 := [(0, .ref v0), (1, .int w0), (2, .int 0)]) [2, 1, 0] rfl ?_
  obtain ⟨q1, hq1, h⟩ := bindN h
  refine zLM_isWhole_15 hG C N hD hd 1000000 _ _ _ hq1 ?_
  · intro r2 eq1; subst eq1
    obtain rfl := Option.some.inj h
    exact E
set_option maxHeartbeats 2000000 in
theorem xM_isWhole {G : GXM} {l : Launch} (hG : GokM G) (d : Nat) (hd : 0 ≤ d) {v0 : Nat} {M : Mem} {q : Int32 × Mem} (h : fM_isWhole v0 M = some q) : ExM G l d 0 0 yM_isWhole cM_isWhole 3 (some .boolean) [.ref v0] M (some (.int q.1)) q.2 := by
  refine ex_of hG (by decide) (Nat.le_of_ble_eq_true rfl) ?_
  intro X hl C E N hD hn
  show ZM G X 0 [(0, .ref v0)] [] M 0 0
  unfold fM_isWhole at h
  refine zz_aload_n C 0 ddM_isWhole_0 rfl rfl ?_
  obtain ⟨h1, h⟩ := gdN h
  refine zz_geti C ddM_isWhole_1 fl_M_116 rfl h1 ?_
  refine zz_if_le (tgt := 11) C ddM_isWhole_4 rfl (fun hc => ?_) (fun hc => ?_)
  · replace h := iteT h hc
    refine zz_iconst (v := 0) C ddM_isWhole_11 (by decide) ?_
    exact zBM_isWhole_12 hG C N hD hd E h
  · replace h := iteF h hc
    refine zz_iconst (v := 1) C ddM_isWhole_7 (by decide) ?_
    refine zz_goto (tgt := 12) C ddM_isWhole_8 rfl ?_
    exact zBM_isWhole_12 hG C N hD hd E h
theorem ddM_readArena_0 : decode cM_readArena 0 = .ok (.aload_n 0, 1) := by decide +kernel
theorem ddM_readArena_1 : decode cM_readArena 1 = .ok (.iconst 0, 1) := by decide +kernel
theorem ddM_readArena_2 : decode cM_readArena 2 = .ok (.putfield 79, 3) := by decide +kernel
theorem ddM_readArena_5 : decode cM_readArena 5 = .ok (.aload_n 0, 1) := by decide +kernel
theorem ddM_readArena_6 : decode cM_readArena 6 = .ok (.iconst (-1), 1) := by decide +kernel
theorem ddM_readArena_7 : decode cM_readArena 7 = .ok (.putfield 86, 3) := by decide +kernel
theorem ddM_readArena_10 : decode cM_readArena 10 = .ok (.aload_n 0, 1) := by decide +kernel
theorem ddM_readArena_11 : decode cM_readArena 11 = .ok (.iconst 0, 1) := by decide +kernel
theorem ddM_readArena_12 : decode cM_readArena 12 = .ok (.putfield 116, 3) := by decide +kernel
theorem ddM_readArena_15 : decode cM_readArena 15 = .ok (.iconst 0, 1) := by decide +kernel
theorem ddM_readArena_16 : decode cM_readArena 16 = .ok (.istore_n 1, 1) := by decide +kernel
theorem ddM_readArena_17 : decode cM_readArena 17 = .ok (.iconst 0, 1) := by decide +kernel
theorem ddM_readArena_18 : decode cM_readArena 18 = .ok (.istore_n 2, 1) := by decide +kernel
theorem ddM_readArena_19 : decode cM_readArena 19 = .ok (.iload_n 2, 1) := by decide +kernel
theorem ddM_readArena_20 : decode cM_readArena 20 = .ok (.iconst 5, 1) := by decide +kernel
theorem ddM_readArena_21 : decode cM_readArena 21 = .ok (.if_icmp .ge 21, 3) := by decide +kernel
theorem ddM_readArena_24 : decode cM_readArena 24 = .ok (.aload_n 0, 1) := by decide +kernel
theorem ddM_readArena_25 : decode cM_readArena 25 = .ok (.getfield 13, 3) := by decide +kernel
theorem ddM_readArena_28 : decode cM_readArena 28 = .ok (.iload_n 2, 1) := by decide +kernel
theorem ddM_readArena_29 : decode cM_readArena 29 = .ok (.bipush 115, 2) := by decide +kernel
theorem ddM_readArena_31 : decode cM_readArena 31 = .ok (.iload_n 2, 1) := by decide +kernel
theorem ddM_readArena_32 : decode cM_readArena 32 = .ok (.invokestatic 99, 3) := by decide +kernel
theorem ddM_readArena_35 : decode cM_readArena 35 = .ok (.iastore, 1) := by decide +kernel
theorem ddM_readArena_36 : decode cM_readArena 36 = .ok (.iinc 2 1, 3) := by decide +kernel
theorem ddM_readArena_39 : decode cM_readArena 39 = .ok (.goto (-20), 3) := by decide +kernel
theorem ddM_readArena_42 : decode cM_readArena 42 = .ok (.iconst 1, 1) := by decide +kernel
theorem ddM_readArena_43 : decode cM_readArena 43 = .ok (.istore_n 2, 1) := by decide +kernel
theorem ddM_readArena_44 : decode cM_readArena 44 = .ok (.iload_n 2, 1) := by decide +kernel
theorem ddM_readArena_45 : decode cM_readArena 45 = .ok (.ifCond .eq 152, 3) := by decide +kernel
theorem ddM_readArena_48 : decode cM_readArena 48 = .ok (.aload_n 0, 1) := by decide +kernel
theorem ddM_readArena_49 : decode cM_readArena 49 = .ok (.getfield 86, 3) := by decide +kernel
theorem ddM_readArena_52 : decode cM_readArena 52 = .ok (.iconst (-1), 1) := by decide +kernel
theorem ddM_readArena_53 : decode cM_readArena 53 = .ok (.if_icmp .ne 144, 3) := by decide +kernel
theorem ddM_readArena_56 : decode cM_readArena 56 = .ok (.aload_n 0, 1) := by decide +kernel
theorem ddM_readArena_57 : decode cM_readArena 57 = .ok (.invokevirtual 89, 3) := by decide +kernel
theorem ddM_readArena_60 : decode cM_readArena 60 = .ok (.istore_n 3, 1) := by decide +kernel
theorem ddM_readArena_61 : decode cM_readArena 61 = .ok (.iload_n 3, 1) := by decide +kernel
theorem ddM_readArena_62 : decode cM_readArena 62 = .ok (.bipush 115, 2) := by decide +kernel
theorem ddM_readArena_64 : decode cM_readArena 64 = .ok (.if_icmp .ne 33, 3) := by decide +kernel
theorem ddM_readArena_67 : decode cM_readArena 67 = .ok (.iload_n 1, 1) := by decide +kernel
theorem ddM_readArena_68 : decode cM_readArena 68 = .ok (.ifCond .ne 29, 3) := by decide +kernel
theorem ddM_readArena_71 : decode cM_readArena 71 = .ok (.iconst 1, 1) := by decide +kernel
theorem ddM_readArena_72 : decode cM_readArena 72 = .ok (.istore_n 1, 1) := by decide +kernel
theorem ddM_readArena_73 : decode cM_readArena 73 = .ok (.aload_n 0, 1) := by decide +kernel
theorem ddM_readArena_74 : decode cM_readArena 74 = .ok (.dup, 1) := by decide +kernel
theorem ddM_readArena_75 : decode cM_readArena 75 = .ok (.getfield 79, 3) := by decide +kernel
theorem ddM_readArena_78 : decode cM_readArena 78 = .ok (.iconst 1, 1) := by decide +kernel
theorem ddM_readArena_79 : decode cM_readArena 79 = .ok (.iadd, 1) := by decide +kernel
theorem ddM_readArena_80 : decode cM_readArena 80 = .ok (.putfield 79, 3) := by decide +kernel
theorem ddM_readArena_83 : decode cM_readArena 83 = .ok (.aload_n 0, 1) := by decide +kernel
theorem ddM_readArena_84 : decode cM_readArena 84 = .ok (.iload_n 3, 1) := by decide +kernel
theorem ddM_readArena_85 : decode cM_readArena 85 = .ok (.aload_n 0, 1) := by decide +kernel
theorem ddM_readArena_86 : decode cM_readArena 86 = .ok (.getfield 13, 3) := by decide +kernel
theorem ddM_readArena_89 : decode cM_readArena 89 = .ok (.iconst 0, 1) := by decide +kernel
theorem ddM_readArena_90 : decode cM_readArena 90 = .ok (.iconst 5, 1) := by decide +kernel
theorem ddM_readArena_91 : decode cM_readArena 91 = .ok (.invokevirtual 119, 3) := by decide +kernel
theorem ddM_readArena_94 : decode cM_readArena 94 = .ok (.goto 59, 3) := by decide +kernel
theorem ddM_readArena_97 : decode cM_readArena 97 = .ok (.iload_n 3, 1) := by decide +kernel
theorem ddM_readArena_98 : decode cM_readArena 98 = .ok (.bipush 99, 2) := by decide +kernel
theorem ddM_readArena_100 : decode cM_readArena 100 = .ok (.if_icmp .ne 49, 3) := by decide +kernel
theorem ddM_readArena_103 : decode cM_readArena 103 = .ok (.aload_n 0, 1) := by decide +kernel
theorem ddM_readArena_104 : decode cM_readArena 104 = .ok (.getfield 116, 3) := by decide +kernel
theorem ddM_readArena_107 : decode cM_readArena 107 = .ok (.bipush 6, 2) := by decide +kernel
theorem ddM_readArena_109 : decode cM_readArena 109 = .ok (.if_icmp .ge 40, 3) := by decide +kernel
theorem ddM_readArena_112 : decode cM_readArena 112 = .ok (.aload_n 0, 1) := by decide +kernel
theorem ddM_readArena_113 : decode cM_readArena 113 = .ok (.dup, 1) := by decide +kernel
theorem ddM_readArena_114 : decode cM_readArena 114 = .ok (.getfield 79, 3) := by decide +kernel
theorem ddM_readArena_117 : decode cM_readArena 117 = .ok (.iconst 1, 1) := by decide +kernel
theorem ddM_readArena_118 : decode cM_readArena 118 = .ok (.iadd, 1) := by decide +kernel
theorem ddM_readArena_119 : decode cM_readArena 119 = .ok (.putfield 79, 3) := by decide +kernel
theorem ddM_readArena_122 : decode cM_readArena 122 = .ok (.aload_n 0, 1) := by decide +kernel
theorem ddM_readArena_123 : decode cM_readArena 123 = .ok (.iload_n 3, 1) := by decide +kernel
theorem ddM_readArena_124 : decode cM_readArena 124 = .ok (.aload_n 0, 1) := by decide +kernel
theorem ddM_readArena_125 : decode cM_readArena 125 = .ok (.getfield 16, 3) := by decide +kernel
theorem ddM_readArena_128 : decode cM_readArena 128 = .ok (.aload_n 0, 1) := by decide +kernel
theorem ddM_readArena_129 : decode cM_readArena 129 = .ok (.getfield 116, 3) := by decide +kernel
theorem ddM_readArena_132 : decode cM_readArena 132 = .ok (.iconst 1, 1) := by decide +kernel
theorem ddM_readArena_133 : decode cM_readArena 133 = .ok (.invokevirtual 119, 3) := by decide +kernel
theorem ddM_readArena_136 : decode cM_readArena 136 = .ok (.aload_n 0, 1) := by decide +kernel
theorem ddM_readArena_137 : decode cM_readArena 137 = .ok (.dup, 1) := by decide +kernel
theorem ddM_readArena_138 : decode cM_readArena 138 = .ok (.getfield 116, 3) := by decide +kernel
theorem ddM_readArena_141 : decode cM_readArena 141 = .ok (.iconst 1, 1) := by decide +kernel
theorem ddM_readArena_142 : decode cM_readArena 142 = .ok (.iadd, 1) := by decide +kernel
theorem ddM_readArena_143 : decode cM_readArena 143 = .ok (.putfield 116, 3) := by decide +kernel
theorem ddM_readArena_146 : decode cM_readArena 146 = .ok (.goto 7, 3) := by decide +kernel
theorem ddM_readArena_149 : decode cM_readArena 149 = .ok (.aload_n 0, 1) := by decide +kernel
theorem ddM_readArena_150 : decode cM_readArena 150 = .ok (.invokevirtual 96, 3) := by decide +kernel
theorem ddM_readArena_153 : decode cM_readArena 153 = .ok (.aload_n 0, 1) := by decide +kernel
theorem ddM_readArena_154 : decode cM_readArena 154 = .ok (.getfield 86, 3) := by decide +kernel
theorem ddM_readArena_157 : decode cM_readArena 157 = .ok (.iconst (-1), 1) := by decide +kernel
theorem ddM_readArena_158 : decode cM_readArena 158 = .ok (.if_icmp .ne 16, 3) := by decide +kernel
theorem ddM_readArena_161 : decode cM_readArena 161 = .ok (.aload_n 0, 1) := by decide +kernel
theorem ddM_readArena_162 : decode cM_readArena 162 = .ok (.invokevirtual 89, 3) := by decide +kernel
theorem ddM_readArena_165 : decode cM_readArena 165 = .ok (.bipush 59, 2) := by decide +kernel
theorem ddM_readArena_167 : decode cM_readArena 167 = .ok (.if_icmp .ne 7, 3) := by decide +kernel
theorem ddM_readArena_170 : decode cM_readArena 170 = .ok (.iconst 1, 1) := by decide +kernel
theorem ddM_readArena_171 : decode cM_readArena 171 = .ok (.goto 4, 3) := by decide +kernel
theorem ddM_readArena_174 : decode cM_readArena 174 = .ok (.iconst 0, 1) := by decide +kernel
theorem ddM_readArena_175 : decode cM_readArena 175 = .ok (.istore_n 2, 1) := by decide +kernel
theorem ddM_readArena_176 : decode cM_readArena 176 = .ok (.aload_n 0, 1) := by decide +kernel
theorem ddM_readArena_177 : decode cM_readArena 177 = .ok (.dup, 1) := by decide +kernel
theorem ddM_readArena_178 : decode cM_readArena 178 = .ok (.getfield 79, 3) := by decide +kernel
theorem ddM_readArena_181 : decode cM_readArena 181 = .ok (.iload_n 2, 1) := by decide +kernel
theorem ddM_readArena_182 : decode cM_readArena 182 = .ok (.ifCond .eq 7, 3) := by decide +kernel
theorem ddM_readArena_185 : decode cM_readArena 185 = .ok (.iconst 1, 1) := by decide +kernel
theorem ddM_readArena_186 : decode cM_readArena 186 = .ok (.goto 4, 3) := by decide +kernel
theorem ddM_readArena_189 : decode cM_readArena 189 = .ok (.iconst 0, 1) := by decide +kernel
theorem ddM_readArena_190 : decode cM_readArena 190 = .ok (.iadd, 1) := by decide +kernel
theorem ddM_readArena_191 : decode cM_readArena 191 = .ok (.putfield 79, 3) := by decide +kernel
theorem ddM_readArena_194 : decode cM_readArena 194 = .ok (.goto (-150), 3) := by decide +kernel
theorem ddM_readArena_197 : decode cM_readArena 197 = .ok (.aload_n 0, 1) := by decide +kernel
theorem ddM_readArena_198 : decode cM_readArena 198 = .ok (.getfield 86, 3) := by decide +kernel
theorem ddM_readArena_201 : decode cM_readArena 201 = .ok (.iconst (-1), 1) := by decide +kernel
theorem ddM_readArena_202 : decode cM_readArena 202 = .ok (.if_icmp .ne 22, 3) := by decide +kernel
theorem ddM_readArena_205 : decode cM_readArena 205 = .ok (.aload_n 0, 1) := by decide +kernel
theorem ddM_readArena_206 : decode cM_readArena 206 = .ok (.invokevirtual 89, 3) := by decide +kernel
theorem ddM_readArena_209 : decode cM_readArena 209 = .ok (.iconst (-1), 1) := by decide +kernel
theorem ddM_readArena_210 : decode cM_readArena 210 = .ok (.if_icmp .ne 10, 3) := by decide +kernel
theorem ddM_readArena_213 : decode cM_readArena 213 = .ok (.aload_n 0, 1) := by decide +kernel
theorem ddM_readArena_214 : decode cM_readArena 214 = .ok (.invokevirtual 123, 3) := by decide +kernel
theorem ddM_readArena_217 : decode cM_readArena 217 = .ok (.ifCond .ne 7, 3) := by decide +kernel
theorem ddM_readArena_220 : decode cM_readArena 220 = .ok (.aload_n 0, 1) := by decide +kernel
theorem ddM_readArena_221 : decode cM_readArena 221 = .ok (.invokevirtual 96, 3) := by decide +kernel
theorem ddM_readArena_224 : decode cM_readArena 224 = .ok (.aload_n 0, 1) := by decide +kernel
theorem ddM_readArena_225 : decode cM_readArena 225 = .ok (.getfield 86, 3) := by decide +kernel
theorem ddM_readArena_228 : decode cM_readArena 228 = .ok (.ireturn, 1) := by decide +kernel
set_option maxHeartbeats 2000000 in
theorem zBM_readArena_224 {G : GXM} {X : CxM} (hG : GokM G) (C : CoM G X cM_readArena "HomeFreedModel") (N : mLM X = 4) {d : Nat} (hD : dpM X = d) (hd : 4 ≤ d)  {q : Int32 × Mem} (E : EnM G X (some .int) (some (.int q.1)) q.2 0 0) {v0 : Nat} {M : Mem} (h : BM_readArena_224 v0 M = some q) : ZM G X 224 [(0, .ref v0)] [] M 0 0 := by
  unfold BM_readArena_224 at h
  refine zz_aload_n C 0 ddM_readArena_224 rfl rfl ?_
  obtain ⟨h1, h⟩ := gdN h
  refine zz_geti C ddM_readArena_225 fl_M_86 rfl h1 ?_
  obtain rfl := Option.some.inj h
  exact zz_iret C E ddM_readArena_228
set_option maxHeartbeats 2000000 in
theorem zBM_readArena_220 {G : GXM} {X : CxM} (hG : GokM G) (C : CoM G X cM_readArena "HomeFreedModel") (N : mLM X = 4) {d : Nat} (hD : dpM X = d) (hd : 4 ≤ d)  {q : Int32 × Mem} (E : EnM G X (some .int) (some (.int q.1)) q.2 0 0) {v0 : Nat} {M : Mem} (h : BM_readArena_220 v0 M = some q) : ZM G X 220 [(0, .ref v0)] [] M 0 0 := by
  unfold BM_readArena_220 at h
  refine zz_aload_n C 0 ddM_readArena_220 rfl rfl ?_
  obtain ⟨h2, h⟩ := gdN h
  obtain ⟨q1, hq1, h⟩ := bindN h
  refine zz_callV0 (As := []) C ddM_readArena_221 wd_1331 my_M_bad mv_M_bad ⟨_, rfl, rfl⟩ (xM_bad hG (d - 1) (by omega) hq1) (by omega) h2 rfl rfl (Nat.le_of_ble_eq_true rfl) ?_
  exact zBM_readArena_224 hG C N hD hd E h
set_option maxHeartbeats 2000000 in
theorem zBM_readArena_197 {G : GXM} {X : CxM} (hG : GokM G) (C : CoM G X cM_readArena "HomeFreedModel") (N : mLM X = 4) {d : Nat} (hD : dpM X = d) (hd : 4 ≤ d)  {q : Int32 × Mem} (E : EnM G X (some .int) (some (.int q.1)) q.2 0 0) {v0 : Nat} {M : Mem} (h : BM_readArena_197 v0 M = some q) : ZM G X 197 [(0, .ref v0)] [] M 0 0 := by
  unfold BM_readArena_197 at h
  refine zz_aload_n C 0 ddM_readArena_197 rfl rfl ?_
  obtain ⟨h1, h⟩ := gdN h
  refine zz_geti C ddM_readArena_198 fl_M_86 rfl h1 ?_
  refine zz_iconst (v := (-1)) C ddM_readArena_201 (by decide) ?_
  refine zz_icmp_ne (tgt := 224) C ddM_readArena_202 rfl (fun hc => ?_) (fun hc => ?_)
  · replace h := iteF h hc
    exact zBM_readArena_224 hG C N hD hd E h
  · replace h := iteT h hc
    refine zz_aload_n C 0 ddM_readArena_205 rfl rfl ?_
    obtain ⟨q2, hq2, h⟩ := bindN h
    refine zz_callV0 (As := []) C ddM_readArena_206 wd_1303 my_M_ahead mv_M_ahead ⟨_, rfl, rfl⟩ (xM_ahead hG (d - 1) (by omega) hq2) (by omega) h1 rfl rfl (Nat.le_of_ble_eq_true rfl) ?_
    refine zz_iconst (v := (-1)) C ddM_readArena_209 (by decide) ?_
    refine zz_icmp_ne (tgt := 220) C ddM_readArena_210 rfl (fun hc => ?_) (fun hc => ?_)
    · replace h := iteF h hc
      exact zBM_readArena_220 hG C N hD hd E h
    · replace h := iteT h hc
      refine zz_aload_n C 0 ddM_readArena_213 rfl rfl ?_
      obtain ⟨h4, h⟩ := gdN h
      obtain ⟨q3, hq3, h⟩ := bindN h
      refine zz_callV0 (As := []) C ddM_readArena_214 wd_1335 my_M_isWhole mv_M_isWhole ⟨_, rfl, rfl⟩ (xM_isWhole hG (d - 1) (by omega) hq3) (by omega) h4 rfl rfl (Nat.le_of_ble_eq_true rfl) ?_
      refine zz_if_ne (tgt := 224) C ddM_readArena_217 rfl (fun hc => ?_) (fun hc => ?_)
      · replace h := iteF h hc
        exact zBM_readArena_224 hG C N hD hd E h
      · replace h := iteT h hc
        exact zBM_readArena_220 hG C N hD hd E h
set_option maxHeartbeats 2000000 in
theorem zBM_readArena_190 {G : GXM} {X : CxM} (hG : GokM G) (C : CoM G X cM_readArena "HomeFreedModel") (N : mLM X = 4) {d : Nat} (hD : dpM X = d) (hd : 4 ≤ d) {v0 : Nat} {K : Nat → Int32 → Int32 → Mem → Option ((Mem))} {q : (Mem)} (hK : ∀ (v1 : Int32) (v2 : Int32) (M : Mem), K v0 v1 v2 M = some q → ZM G X 44 [(0, .ref v0), (1, .int v1), (2, .int v2)] [] M 0 0) (hx0 : ∀ y : Mem, q = y → ZM G X 197 [(0, .ref v0)] [] y 0 0) {v1 : Int32} {v2 : Int32} {w0 : Nat} {w1 : Int32} {w2 : Int32} {M : Mem} (h : BM_readArena_190 K v0 v1 v2 w0 w1 w2 M = some q) : ZM G X 190 [(0, .ref v0), (1, .int v1), (2, .int v2)] [.int w2, .int w1, .ref w0] M 0 0 := by
  unfold BM_readArena_190 at h
  refine zz_iadd C ddM_readArena_190 ?_
  obtain ⟨h1, h⟩ := gdN h
  refine zz_puti C ddM_readArena_191 fl_M_79 rfl rfl rfl h1 ?_
  refine zz_goto (tgt := 44) C ddM_readArena_194 rfl ?_
  exact hK _ _ _ h
set_option maxHeartbeats 2000000 in
theorem zBM_readArena_175 {G : GXM} {X : CxM} (hG : GokM G) (C : CoM G X cM_readArena "HomeFreedModel") (N : mLM X = 4) {d : Nat} (hD : dpM X = d) (hd : 4 ≤ d) {v0 : Nat} {K : Nat → Int32 → Int32 → Mem → Option ((Mem))} {q : (Mem)} (hK : ∀ (v1 : Int32) (v2 : Int32) (M : Mem), K v0 v1 v2 M = some q → ZM G X 44 [(0, .ref v0), (1, .int v1), (2, .int v2)] [] M 0 0) (hx0 : ∀ y : Mem, q = y → ZM G X 197 [(0, .ref v0)] [] y 0 0) {v1 : Int32} {w0 : Int32} {M : Mem} (h : BM_readArena_175 K v0 v1 w0 M = some q) : ZM G X 175 [(0, .ref v0), (1, .int v1)] [.int w0] M 0 0 := by
  unfold BM_readArena_175 at h
  refine zz_istore_n (L1 := [(2, .int w0), (0, .ref v0), (1, .int v1)]) C ddM_readArena_175 rfl N (by decide) rfl ?_
  refine zz_aload_n C 1 ddM_readArena_176 rfl rfl ?_
  refine zz_dup C ddM_readArena_177 rfl ?_
  obtain ⟨h1, h⟩ := gdN h
  refine zz_geti C ddM_readArena_178 fl_M_79 rfl h1 ?_
  refine zz_iload_n C 0 ddM_readArena_181 rfl rfl ?_
  refine zz_if_eq (tgt := 189) C ddM_readArena_182 rfl (fun hc => ?_) (fun hc => ?_)
  · replace h := iteT h hc
    refine zz_iconst (v := 0) C ddM_readArena_189 (by decide) ?_
    refine zz_loc (L1 := [(0, .ref v0), (1, .int v1), (2, .int w0)]) [1, 2, 0] rfl ?_
    exact zBM_readArena_190 hG C N hD hd hK hx0 h
  · replace h := iteF h hc
    refine zz_iconst (v := 1) C ddM_readArena_185 (by decide) ?_
    refine zz_goto (tgt := 190) C ddM_readArena_186 rfl ?_
    refine zz_loc (L1 := [(0, .ref v0), (1, .int v1), (2, .int w0)]) [1, 2, 0] rfl ?_
    exact zBM_readArena_190 hG C N hD hd hK hx0 h
set_option maxHeartbeats 2000000 in
theorem zBM_readArena_174 {G : GXM} {X : CxM} (hG : GokM G) (C : CoM G X cM_readArena "HomeFreedModel") (N : mLM X = 4) {d : Nat} (hD : dpM X = d) (hd : 4 ≤ d) {v0 : Nat} {K : Nat → Int32 → Int32 → Mem → Option ((Mem))} {q : (Mem)} (hK : ∀ (v1 : Int32) (v2 : Int32) (M : Mem), K v0 v1 v2 M = some q → ZM G X 44 [(0, .ref v0), (1, .int v1), (2, .int v2)] [] M 0 0) (hx0 : ∀ y : Mem, q = y → ZM G X 197 [(0, .ref v0)] [] y 0 0) {v1 : Int32} {M : Mem} (h : BM_readArena_174 K v0 v1 M = some q) : ZM G X 174 [(0, .ref v0), (1, .int v1)] [] M 0 0 := by
  unfold BM_readArena_174 at h
  refine zz_iconst (v := 0) C ddM_readArena_174 (by decide) ?_
  exact zBM_readArena_175 hG C N hD hd hK hx0 h
set_option maxHeartbeats 2000000 in
theorem zBM_readArena_153 {G : GXM} {X : CxM} (hG : GokM G) (C : CoM G X cM_readArena "HomeFreedModel") (N : mLM X = 4) {d : Nat} (hD : dpM X = d) (hd : 4 ≤ d) {v0 : Nat} {K : Nat → Int32 → Int32 → Mem → Option ((Mem))} {q : (Mem)} (hK : ∀ (v1 : Int32) (v2 : Int32) (M : Mem), K v0 v1 v2 M = some q → ZM G X 44 [(0, .ref v0), (1, .int v1), (2, .int v2)] [] M 0 0) (hx0 : ∀ y : Mem, q = y → ZM G X 197 [(0, .ref v0)] [] y 0 0) {v1 : Int32} {M : Mem} (h : BM_readArena_153 K v0 v1 M = some q) : ZM G X 153 [(0, .ref v0), (1, .int v1)] [] M 0 0 := by
  unfold BM_readArena_153 at h
  refine zz_aload_n C 0 ddM_readArena_153 rfl rfl ?_
  obtain ⟨h1, h⟩ := gdN h
  refine zz_geti C ddM_readArena_154 fl_M_86 rfl h1 ?_
  refine zz_iconst (v := (-1)) C ddM_readArena_157 (by decide) ?_
  refine zz_icmp_ne (tgt := 174) C ddM_readArena_158 rfl (fun hc => ?_) (fun hc => ?_)
  · replace h := iteF h hc
    exact zBM_readArena_174 hG C N hD hd hK hx0 h
  · replace h := iteT h hc
    refine zz_aload_n C 0 ddM_readArena_161 rfl rfl ?_
    obtain ⟨q2, hq2, h⟩ := bindN h
    refine zz_callV0 (As := []) C ddM_readArena_162 wd_1303 my_M_ahead mv_M_ahead ⟨_, rfl, rfl⟩ (xM_ahead hG (d - 1) (by omega) hq2) (by omega) h1 rfl rfl (Nat.le_of_ble_eq_true rfl) ?_
    refine zz_bipush (v := 59) C ddM_readArena_165 (by decide) ?_
    refine zz_icmp_ne (tgt := 174) C ddM_readArena_167 rfl (fun hc => ?_) (fun hc => ?_)
    · replace h := iteF h hc
      exact zBM_readArena_174 hG C N hD hd hK hx0 h
    · replace h := iteT h hc
      refine zz_iconst (v := 1) C ddM_readArena_170 (by decide) ?_
      refine zz_goto (tgt := 175) C ddM_readArena_171 rfl ?_
      exact zBM_readArena_175 hG C N hD hd hK hx0 h
set_option maxHeartbeats 2000000 in
theorem zBM_readArena_149 {G : GXM} {X : CxM} (hG : GokM G) (C : CoM G X cM_readArena "HomeFreedModel") (N : mLM X = 4) {d : Nat} (hD : dpM X = d) (hd : 4 ≤ d) {v0 : Nat} {K : Nat → Int32 → Int32 → Mem → Option ((Mem))} {q : (Mem)} (hK : ∀ (v1 : Int32) (v2 : Int32) (M : Mem), K v0 v1 v2 M = some q → ZM G X 44 [(0, .ref v0), (1, .int v1), (2, .int v2)] [] M 0 0) (hx0 : ∀ y : Mem, q = y → ZM G X 197 [(0, .ref v0)] [] y 0 0) {v1 : Int32} {M : Mem} (h : BM_readArena_149 K v0 v1 M = some q) : ZM G X 149 [(0, .ref v0), (1, .int v1)] [] M 0 0 := by
  unfold BM_readArena_149 at h
  refine zz_aload_n C 0 ddM_readArena_149 rfl rfl ?_
  obtain ⟨h2, h⟩ := gdN h
  obtain ⟨q1, hq1, h⟩ := bindN h
  refine zz_callV0 (As := []) C ddM_readArena_150 wd_1331 my_M_bad mv_M_bad ⟨_, rfl, rfl⟩ (xM_bad hG (d - 1) (by omega) hq1) (by omega) h2 rfl rfl (Nat.le_of_ble_eq_true rfl) ?_
  exact zBM_readArena_153 hG C N hD hd hK hx0 h
set_option maxHeartbeats 2000000 in
theorem zBM_readArena_97 {G : GXM} {X : CxM} (hG : GokM G) (C : CoM G X cM_readArena "HomeFreedModel") (N : mLM X = 4) {d : Nat} (hD : dpM X = d) (hd : 4 ≤ d) {v0 : Nat} {K : Nat → Int32 → Int32 → Mem → Option ((Mem))} {q : (Mem)} (hK : ∀ (v1 : Int32) (v2 : Int32) (M : Mem), K v0 v1 v2 M = some q → ZM G X 44 [(0, .ref v0), (1, .int v1), (2, .int v2)] [] M 0 0) (hx0 : ∀ y : Mem, q = y → ZM G X 197 [(0, .ref v0)] [] y 0 0) {v1 : Int32} {v3 : Int32} {M : Mem} (h : BM_readArena_97 K v0 v1 v3 M = some q) : ZM G X 97 [(0, .ref v0), (1, .int v1), (3, .int v3)] [] M 0 0 := by
  unfold BM_readArena_97 at h
  refine zz_iload_n C 2 ddM_readArena_97 rfl rfl ?_
  refine zz_bipush (v := 99) C ddM_readArena_98 (by decide) ?_
  refine zz_icmp_ne (tgt := 149) C ddM_readArena_100 rfl (fun hc => ?_) (fun hc => ?_)
  · replace h := iteF h hc
    refine zz_loc (L1 := [(0, .ref v0), (1, .int v1)]) [0, 1] rfl ?_
    exact zBM_readArena_149 hG C N hD hd hK hx0 h
  · replace h := iteT h hc
    refine zz_aload_n C 0 ddM_readArena_103 rfl rfl ?_
    obtain ⟨h1, h⟩ := gdN h
    refine zz_geti C ddM_readArena_104 fl_M_116 rfl h1 ?_
    refine zz_bipush (v := 6) C ddM_readArena_107 (by decide) ?_
    refine zz_icmp_ge (tgt := 149) C ddM_readArena_109 rfl (fun hc => ?_) (fun hc => ?_)
    · replace h := iteT h hc
      refine zz_loc (L1 := [(0, .ref v0), (1, .int v1)]) [0, 1] rfl ?_
      exact zBM_readArena_149 hG C N hD hd hK hx0 h
    · replace h := iteF h hc
      refine zz_aload_n C 0 ddM_readArena_112 rfl rfl ?_
      refine zz_dup C ddM_readArena_113 rfl ?_
      refine zz_geti C ddM_readArena_114 fl_M_79 rfl h1 ?_
      refine zz_iconst (v := 1) C ddM_readArena_117 (by decide) ?_
      refine zz_iadd C ddM_readArena_118 ?_
      refine zz_puti C ddM_readArena_119 fl_M_79 rfl rfl rfl h1 ?_
      refine zz_aload_n C 0 ddM_readArena_122 rfl rfl ?_
      refine zz_iload_n C 2 ddM_readArena_123 rfl rfl ?_
      refine zz_aload_n C 0 ddM_readArena_124 rfl rfl ?_
      obtain ⟨h2, h⟩ := gdN h
      refine zz_getr C ddM_readArena_125 fl_M_16 rfl h1 (of_decide_eq_true h2) ?_
      refine zz_aload_n C 0 ddM_readArena_128 rfl rfl ?_
      refine zz_geti C ddM_readArena_129 fl_M_116 rfl h1 ?_
      refine zz_iconst (v := 1) C ddM_readArena_132 (by decide) ?_
      obtain ⟨q3, hq3, h⟩ := bindN h
      refine zz_callV0 (As := [.int v3, .ref (grM M v0 6), .int (giM (siM M v0 3 ((giM M v0 3) + 1)) v0 7), .int 1]) C ddM_readArena_133 wd_1311 my_M_items mv_M_items ⟨_, rfl, rfl⟩ (xM_items hG (d - 1) (by omega) hq3) (by omega) h1 rfl rfl (Nat.le_of_ble_eq_true rfl) ?_
      refine zz_aload_n C 0 ddM_readArena_136 rfl rfl ?_
      refine zz_dup C ddM_readArena_137 rfl ?_
      obtain ⟨h4, h⟩ := gdN h
      refine zz_geti C ddM_readArena_138 fl_M_116 rfl h4 ?_
      refine zz_iconst (v := 1) C ddM_readArena_141 (by decide) ?_
      refine zz_iadd C ddM_readArena_142 ?_
      refine zz_puti C ddM_readArena_143 fl_M_116 rfl rfl rfl h4 ?_
      refine zz_goto (tgt := 153) C ddM_readArena_146 rfl ?_
      refine zz_loc (L1 := [(0, .ref v0), (1, .int v1)]) [0, 1] rfl ?_
      exact zBM_readArena_153 hG C N hD hd hK hx0 h
set_option maxHeartbeats 2000000 in
theorem zBM_readArena_44 {G : GXM} {X : CxM} (hG : GokM G) (C : CoM G X cM_readArena "HomeFreedModel") (N : mLM X = 4) {d : Nat} (hD : dpM X = d) (hd : 4 ≤ d) {v0 : Nat} {K : Nat → Int32 → Int32 → Mem → Option ((Mem))} {q : (Mem)} (hK : ∀ (v1 : Int32) (v2 : Int32) (M : Mem), K v0 v1 v2 M = some q → ZM G X 44 [(0, .ref v0), (1, .int v1), (2, .int v2)] [] M 0 0) (hx0 : ∀ y : Mem, q = y → ZM G X 197 [(0, .ref v0)] [] y 0 0) {v1 : Int32} {v2 : Int32} {M : Mem} (h : BM_readArena_44 K v0 v1 v2 M = some q) : ZM G X 44 [(0, .ref v0), (1, .int v1), (2, .int v2)] [] M 0 0 := by
  unfold BM_readArena_44 at h
  refine zz_iload_n C 2 ddM_readArena_44 rfl rfl ?_
  refine zz_if_eq (tgt := 197) C ddM_readArena_45 rfl (fun hc => ?_) (fun hc => ?_)
  · replace h := iteT h hc
    refine zz_loc (L1 := [(0, .ref v0)]) [0] rfl ?_
    exact hx0 _ (Option.some.inj h).symm
  · replace h := iteF h hc
    refine zz_aload_n C 0 ddM_readArena_48 rfl rfl ?_
    obtain ⟨h1, h⟩ := gdN h
    refine zz_geti C ddM_readArena_49 fl_M_86 rfl h1 ?_
    refine zz_iconst (v := (-1)) C ddM_readArena_52 (by decide) ?_
    refine zz_icmp_ne (tgt := 197) C ddM_readArena_53 rfl (fun hc => ?_) (fun hc => ?_)
    · replace h := iteF h hc
      refine zz_loc (L1 := [(0, .ref v0)]) [0] rfl ?_
      exact hx0 _ (Option.some.inj h).symm
    · replace h := iteT h hc
      refine zz_aload_n C 0 ddM_readArena_56 rfl rfl ?_
      obtain ⟨q2, hq2, h⟩ := bindN h
      refine zz_callV0 (As := []) C ddM_readArena_57 wd_1303 my_M_ahead mv_M_ahead ⟨_, rfl, rfl⟩ (xM_ahead hG (d - 1) (by omega) hq2) (by omega) h1 rfl rfl (Nat.le_of_ble_eq_true rfl) ?_
      refine zz_istore_n (L1 := [(3, .int q2.1), (0, .ref v0), (1, .int v1), (2, .int v2)]) C ddM_readArena_60 rfl N (by decide) rfl ?_
      refine zz_iload_n C 0 ddM_readArena_61 rfl rfl ?_
      refine zz_bipush (v := 115) C ddM_readArena_62 (by decide) ?_
      refine zz_icmp_ne (tgt := 97) C ddM_readArena_64 rfl (fun hc => ?_) (fun hc => ?_)
      · replace h := iteF h hc
        refine zz_loc (L1 := [(0, .ref v0), (1, .int v1), (3, .int q2.1)]) [1, 2, 0] rfl ?_
        exact zBM_readArena_97 hG C N hD hd hK hx0 h
      · replace h := iteT h hc
        refine zz_iload_n C 2 ddM_readArena_67 rfl rfl ?_
        refine zz_if_ne (tgt := 97) C ddM_readArena_68 rfl (fun hc => ?_) (fun hc => ?_)
        · replace h := iteF h hc
          refine zz_loc (L1 := [(0, .ref v0), (1, .int v1), (3, .int q2.1)]) [1, 2, 0] rfl ?_
          exact zBM_readArena_97 hG C N hD hd hK hx0 h
        · replace h := iteT h hc
          refine zz_iconst (v := 1) C ddM_readArena_71 (by decide) ?_
          refine zz_istore_n (L1 := [(1, .int 1), (3, .int q2.1), (0, .ref v0), (2, .int v2)]) C ddM_readArena_72 rfl N (by decide) rfl ?_
          refine zz_aload_n C 2 ddM_readArena_73 rfl rfl ?_
          refine zz_dup C ddM_readArena_74 rfl ?_
          obtain ⟨h3, h⟩ := gdN h
          refine zz_geti C ddM_readArena_75 fl_M_79 rfl h3 ?_
          refine zz_iconst (v := 1) C ddM_readArena_78 (by decide) ?_
          refine zz_iadd C ddM_readArena_79 ?_
          refine zz_puti C ddM_readArena_80 fl_M_79 rfl rfl rfl h3 ?_
          refine zz_aload_n C 2 ddM_readArena_83 rfl rfl ?_
          refine zz_iload_n C 1 ddM_readArena_84 rfl rfl ?_
          refine zz_aload_n C 2 ddM_readArena_85 rfl rfl ?_
          obtain ⟨h4, h⟩ := gdN h
          refine zz_getr C ddM_readArena_86 fl_M_13 rfl h3 (of_decide_eq_true h4) ?_
          refine zz_iconst (v := 0) C ddM_readArena_89 (by decide) ?_
          refine zz_iconst (v := 5) C ddM_readArena_90 (by decide) ?_
          obtain ⟨q5, hq5, h⟩ := bindN h
          refine zz_callV0 (As := [.int q2.1, .ref (grM q2.2 v0 5), .int 0, .int 5]) C ddM_readArena_91 wd_1311 my_M_items mv_M_items ⟨_, rfl, rfl⟩ (xM_items hG (d - 1) (by omega) hq5) (by omega) h3 rfl rfl (Nat.le_of_ble_eq_true rfl) ?_
          refine zz_goto (tgt := 153) C ddM_readArena_94 rfl ?_
          refine zz_loc (L1 := [(0, .ref v0), (1, .int 1)]) [2, 0] rfl ?_
          exact zBM_readArena_153 hG C N hD hd hK hx0 h
set_option maxHeartbeats 2000000 in
theorem zLM_readArena_44 {G : GXM} {X : CxM} (hG : GokM G) (C : CoM G X cM_readArena "HomeFreedModel") (N : mLM X = 4) {d : Nat} (hD : dpM X = d) (hd : 4 ≤ d) {v0 : Nat} {q : (Mem)} : ∀ (f : Nat) (v1 : Int32) (v2 : Int32) (M : Mem), LM_readArena_44 f v0 v1 v2 M = some q → (hx0 : ∀ y : Mem, q = y → ZM G X 197 [(0, .ref v0)] [] y 0 0) → ZM G X 44 [(0, .ref v0), (1, .int v1), (2, .int v2)] [] M 0 0 := by
  intro f
  induction f with
  | zero => intro v1 v2 M h; cases h
  | succ f ih =>
    intro v1 v2 M h hx0
    exact zBM_readArena_44 hG C N hD hd (K := LM_readArena_44 f) (q := q) (fun v1 v2 M h => ih v1 v2 M h hx0) hx0 h
set_option maxHeartbeats 2000000 in
theorem zBM_readArena_19 {G : GXM} {X : CxM} (hG : GokM G) (C : CoM G X cM_readArena "HomeFreedModel") (N : mLM X = 4) {d : Nat} (hD : dpM X = d) (hd : 4 ≤ d) {v0 : Nat} {v1 : Int32} {K : Nat → Int32 → Int32 → Mem → Option ((Mem))} {q : (Mem)} (hK : ∀ (v2 : Int32) (M : Mem), K v0 v1 v2 M = some q → ZM G X 19 [(0, .ref v0), (1, .int v1), (2, .int v2)] [] M 0 0) (hx0 : ∀ y : Mem, q = y → ZM G X 42 [(0, .ref v0), (1, .int v1)] [] y 0 0) {v2 : Int32} {M : Mem} (h : BM_readArena_19 K v0 v1 v2 M = some q) : ZM G X 19 [(0, .ref v0), (1, .int v1), (2, .int v2)] [] M 0 0 := by
  unfold BM_readArena_19 at h
  refine zz_iload_n C 2 ddM_readArena_19 rfl rfl ?_
  refine zz_iconst (v := 5) C ddM_readArena_20 (by decide) ?_
  refine zz_icmp_ge (tgt := 42) C ddM_readArena_21 rfl (fun hc => ?_) (fun hc => ?_)
  · replace h := iteT h hc
    refine zz_loc (L1 := [(0, .ref v0), (1, .int v1)]) [0, 1] rfl ?_
    exact hx0 _ (Option.some.inj h).symm
  · replace h := iteF h hc
    refine zz_aload_n C 0 ddM_readArena_24 rfl rfl ?_
    obtain ⟨h1, h⟩ := gdN h
    obtain ⟨h2, h⟩ := gdN h
    refine zz_getr C ddM_readArena_25 fl_M_13 rfl h1 (of_decide_eq_true h2) ?_
    refine zz_iload_n C 2 ddM_readArena_28 rfl rfl ?_
    refine zz_bipush (v := 115) C ddM_readArena_29 (by decide) ?_
    refine zz_iload_n C 2 ddM_readArena_31 rfl rfl ?_
    obtain ⟨q3, hq3, h⟩ := bindN h
    refine zz_callS0 (As := [.int 115, .int v2]) C ddM_readArena_32 wd_1300 my_M_usual mv_M_usual (xM_usual hG (d - 1) (by omega) hq3) (by omega) rfl rfl (Nat.le_of_ble_eq_true rfl) ?_
    obtain ⟨h4, h⟩ := gdN h
    refine zz_iastore C ddM_readArena_35 h4 ?_
    refine zz_iinc (v := v2 + 1) (L1 := [(2, .int (v2 + 1)), (0, .ref v0), (1, .int v1)]) C 2 ddM_readArena_36 rfl rfl N (by decide) rfl ?_
    refine zz_goto (tgt := 19) C ddM_readArena_39 rfl ?_
    refine zz_loc (L1 := [(0, .ref v0), (1, .int v1), (2, .int (v2 + 1))]) [1, 2, 0] rfl ?_
    exact hK _ _ h
set_option maxHeartbeats 2000000 in
theorem zLM_readArena_19 {G : GXM} {X : CxM} (hG : GokM G) (C : CoM G X cM_readArena "HomeFreedModel") (N : mLM X = 4) {d : Nat} (hD : dpM X = d) (hd : 4 ≤ d) {v0 : Nat} {v1 : Int32} {q : (Mem)} : ∀ (f : Nat) (v2 : Int32) (M : Mem), LM_readArena_19 f v0 v1 v2 M = some q → (hx0 : ∀ y : Mem, q = y → ZM G X 42 [(0, .ref v0), (1, .int v1)] [] y 0 0) → ZM G X 19 [(0, .ref v0), (1, .int v1), (2, .int v2)] [] M 0 0 := by
  intro f
  induction f with
  | zero => intro v2 M h; cases h
  | succ f ih =>
    intro v2 M h hx0
    exact zBM_readArena_19 hG C N hD hd (K := LM_readArena_19 f) (q := q) (fun v2 M h => ih v2 M h hx0) hx0 h
set_option maxHeartbeats 2000000 in
theorem xM_readArena {G : GXM} {l : Launch} (hG : GokM G) (d : Nat) (hd : 4 ≤ d) {v0 : Nat} {M : Mem} {q : Int32 × Mem} (h : fM_readArena v0 M = some q) : ExM G l d 0 0 yM_readArena cM_readArena 4 (some .int) [.ref v0] M (some (.int q.1)) q.2 := by
  refine ex_of hG (by decide) (Nat.le_of_ble_eq_true rfl) ?_
  intro X hl C E N hD hn
  show ZM G X 0 [(2, .int v2), (1, .int v1), (0, .ref v0)] [] M 0 0
  unfold fM_readArena at h
  refine zz_aload_n C 0 ddM_readArena_0 rfl rfl ?_
  refine zz_iconst (v := 0) C ddM_readArena_1 (by decide) ?_
  obtain ⟨h1, h⟩ := gdN h
  refine zz_puti C ddM_readArena_2 fl_M_79 rfl rfl rfl h1 ?_
  refine zz_aload_n C 0 ddM_readArena_5 rfl rfl ?_
  refine zz_iconst (v := (-1)) C ddM_readArena_6 (by decide) ?_
  refine zz_puti C ddM_readArena_7 fl_M_86 rfl rfl rfl h1 ?_
  refine zz_aload_n C 0 ddM_readArena_10 rfl rfl ?_
  refine zz_iconst (v := 0) C ddM_readArena_11 (by decide) ?_
  refine zz_puti C ddM_readArena_12 fl_M_116 rfl rfl rfl h1 ?_
  refine zz_iconst (v := 0) C ddM_readArena_15 (by decide) ?_
  refine zz_istore_n (L1 := [(1, .int 0), (0, .ref v0)]) C ddM_readArena_16 rfl N (by decide) rfl ?_
  refine zz_iconst (v := 0) C ddM_readArena_17 (by decide) ?_
  refine zz_istore_n (L1 := [(2, .int 0), (1, .int 0), (0, .ref v0)]) C ddM_readArena_18 rfl N (by decide) rfl ?_
  refine zz_loc (L1 := [(0, .ref v0), (1, .int 0), (2, .int 0)]) [2, 1, 0] rfl ?_
  obtain ⟨q2, hq2, h⟩ := bindN h
  refine zLM_readArena_19 hG C N hD hd 1000000 _ _ hq2 ?_
  · intro y3 eq2; subst eq2
    refine zz_iconst (v := 1) C ddM_readArena_42 (by decide) ?_
    refine zz_istore_n (L1 := [(2, .int 1), (0, .ref v0), (1, .int 0)]) C ddM_readArena_43 rfl N (by decide) rfl ?_
    refine zz_loc (L1 := [(0, .ref v0), (1, .int 0), (2, .int 1)]) [1, 2, 0] rfl ?_
    obtain ⟨q4, hq4, h⟩ := bindN h
    refine zLM_readArena_44 hG C N hD hd 1000000 _ _ _ hq4 ?_
    · intro y5 eq4; subst eq4
      exact zBM_readArena_197 hG C N hD hd E h
theorem ddM_sortOf_0 : decode cM_sortOf 0 = .ok (.iload_n 0, 1) := by decide +kernel
theorem ddM_sortOf_1 : decode cM_sortOf 1 = .ok (.lookupswitch 82 #[(40, 77), (41, 79), (102, 69), (103, 67), (107, 73), (109, 75), (120, 71)], 67) := by decide +kernel
theorem ddM_sortOf_68 : decode cM_sortOf 68 = .ok (.iconst 0, 1) := by decide +kernel
theorem ddM_sortOf_69 : decode cM_sortOf 69 = .ok (.ireturn, 1) := by decide +kernel
theorem ddM_sortOf_70 : decode cM_sortOf 70 = .ok (.iconst 1, 1) := by decide +kernel
theorem ddM_sortOf_71 : decode cM_sortOf 71 = .ok (.ireturn, 1) := by decide +kernel
theorem ddM_sortOf_72 : decode cM_sortOf 72 = .ok (.iconst 2, 1) := by decide +kernel
theorem ddM_sortOf_73 : decode cM_sortOf 73 = .ok (.ireturn, 1) := by decide +kernel
theorem ddM_sortOf_74 : decode cM_sortOf 74 = .ok (.iconst 3, 1) := by decide +kernel
theorem ddM_sortOf_75 : decode cM_sortOf 75 = .ok (.ireturn, 1) := by decide +kernel
theorem ddM_sortOf_76 : decode cM_sortOf 76 = .ok (.iconst 4, 1) := by decide +kernel
theorem ddM_sortOf_77 : decode cM_sortOf 77 = .ok (.ireturn, 1) := by decide +kernel
theorem ddM_sortOf_78 : decode cM_sortOf 78 = .ok (.iconst 5, 1) := by decide +kernel
theorem ddM_sortOf_79 : decode cM_sortOf 79 = .ok (.ireturn, 1) := by decide +kernel
theorem ddM_sortOf_80 : decode cM_sortOf 80 = .ok (.bipush 6, 2) := by decide +kernel
theorem ddM_sortOf_82 : decode cM_sortOf 82 = .ok (.ireturn, 1) := by decide +kernel
theorem ddM_sortOf_83 : decode cM_sortOf 83 = .ok (.iconst (-1), 1) := by decide +kernel
theorem ddM_sortOf_84 : decode cM_sortOf 84 = .ok (.ireturn, 1) := by decide +kernel
set_option maxHeartbeats 2000000 in
theorem xM_sortOf {G : GXM} {l : Launch} (hG : GokM G) (d : Nat) (hd : 0 ≤ d) {v0 : Int32} {M : Mem} {q : Int32 × Mem} (h : fM_sortOf v0 M = some q) : ExM G l d 0 0 yM_sortOf cM_sortOf 1 (some .int) [.int v0] M (some (.int q.1)) q.2 := by
  refine ex_of hG (by decide) (Nat.le_of_ble_eq_true rfl) ?_
  intro X hl C E N hD hn
  show ZM G X 0 [(0, .int v0)] [] M 0 0
  unfold fM_sortOf at h
  refine zz_iload_n C 0 ddM_sortOf_0 rfl rfl ?_
  by_cases hs1_0 : v0 = 40
  · replace h := iteT h hs1_0
    rw [hs1_0]
    refine zz_lookup (tgt := 78) C ddM_sortOf_1 (by decide) rfl rfl ?_
    refine zz_iconst (v := 5) C ddM_sortOf_78 (by decide) ?_
    obtain rfl := Option.some.inj h
    exact zz_iret C E ddM_sortOf_79
  replace h := iteF h hs1_0
  by_cases hs1_1 : v0 = 41
  · replace h := iteT h hs1_1
    rw [hs1_1]
    refine zz_lookup (tgt := 80) C ddM_sortOf_1 (by decide) rfl rfl ?_
    refine zz_bipush (v := 6) C ddM_sortOf_80 (by decide) ?_
    obtain rfl := Option.some.inj h
    exact zz_iret C E ddM_sortOf_82
  replace h := iteF h hs1_1
  by_cases hs1_2 : v0 = 102
  · replace h := iteT h hs1_2
    rw [hs1_2]
    refine zz_lookup (tgt := 70) C ddM_sortOf_1 (by decide) rfl rfl ?_
    refine zz_iconst (v := 1) C ddM_sortOf_70 (by decide) ?_
    obtain rfl := Option.some.inj h
    exact zz_iret C E ddM_sortOf_71
  replace h := iteF h hs1_2
  by_cases hs1_3 : v0 = 103
  · replace h := iteT h hs1_3
    rw [hs1_3]
    refine zz_lookup (tgt := 68) C ddM_sortOf_1 (by decide) rfl rfl ?_
    refine zz_iconst (v := 0) C ddM_sortOf_68 (by decide) ?_
    obtain rfl := Option.some.inj h
    exact zz_iret C E ddM_sortOf_69
  replace h := iteF h hs1_3
  by_cases hs1_4 : v0 = 107
  · replace h := iteT h hs1_4
    rw [hs1_4]
    refine zz_lookup (tgt := 74) C ddM_sortOf_1 (by decide) rfl rfl ?_
    refine zz_iconst (v := 3) C ddM_sortOf_74 (by decide) ?_
    obtain rfl := Option.some.inj h
    exact zz_iret C E ddM_sortOf_75
  replace h := iteF h hs1_4
  by_cases hs1_5 : v0 = 109
  · replace h := iteT h hs1_5
    rw [hs1_5]
    refine zz_lookup (tgt := 76) C ddM_sortOf_1 (by decide) rfl rfl ?_
    refine zz_iconst (v := 4) C ddM_sortOf_76 (by decide) ?_
    obtain rfl := Option.some.inj h
    exact zz_iret C E ddM_sortOf_77
  replace h := iteF h hs1_5
  by_cases hs1_6 : v0 = 120
  · replace h := iteT h hs1_6
    rw [hs1_6]
    refine zz_lookup (tgt := 72) C ddM_sortOf_1 (by decide) rfl rfl ?_
    refine zz_iconst (v := 2) C ddM_sortOf_72 (by decide) ?_
    obtain rfl := Option.some.inj h
    exact zz_iret C E ddM_sortOf_73
  replace h := iteF h hs1_6
  refine zz_lookup (tgt := 83) C ddM_sortOf_1 (by decide) (by refine (lv_osw hs1_0 (by decide)).trans ?_; refine (lv_osw hs1_1 (by decide)).trans ?_; refine (lv_osw hs1_2 (by decide)).trans ?_; refine (lv_osw hs1_3 (by decide)).trans ?_; refine (lv_osw hs1_4 (by decide)).trans ?_; refine (lv_osw hs1_5 (by decide)).trans ?_; refine (lv_osw hs1_6 (by decide)).trans ?_; rfl) rfl ?_
  refine zz_iconst (v := (-1)) C ddM_sortOf_83 (by decide) ?_
  obtain rfl := Option.some.inj h
  exact zz_iret C E ddM_sortOf_84
theorem ddM_readStep_0 : decode cM_readStep 0 = .ok (.aload_n 0, 1) := by decide +kernel
theorem ddM_readStep_1 : decode cM_readStep 1 = .ok (.invokevirtual 89, 3) := by decide +kernel
theorem ddM_readStep_4 : decode cM_readStep 4 = .ok (.invokestatic 127, 3) := by decide +kernel
theorem ddM_readStep_7 : decode cM_readStep 7 = .ok (.istore_n 2, 1) := by decide +kernel
theorem ddM_readStep_8 : decode cM_readStep 8 = .ok (.iload_n 2, 1) := by decide +kernel
theorem ddM_readStep_9 : decode cM_readStep 9 = .ok (.iconst (-1), 1) := by decide +kernel
theorem ddM_readStep_10 : decode cM_readStep 10 = .ok (.if_icmp .eq 30, 3) := by decide +kernel
theorem ddM_readStep_13 : decode cM_readStep 13 = .ok (.iload_n 2, 1) := by decide +kernel
theorem ddM_readStep_14 : decode cM_readStep 14 = .ok (.iconst 5, 1) := by decide +kernel
theorem ddM_readStep_15 : decode cM_readStep 15 = .ok (.if_icmp .ne 12, 3) := by decide +kernel
theorem ddM_readStep_18 : decode cM_readStep 18 = .ok (.aload_n 0, 1) := by decide +kernel
theorem ddM_readStep_19 : decode cM_readStep 19 = .ok (.getfield 131, 3) := by decide +kernel
theorem ddM_readStep_22 : decode cM_readStep 22 = .ok (.bipush 6, 2) := by decide +kernel
theorem ddM_readStep_24 : decode cM_readStep 24 = .ok (.if_icmp .eq 16, 3) := by decide +kernel
theorem ddM_readStep_27 : decode cM_readStep 27 = .ok (.iload_n 2, 1) := by decide +kernel
theorem ddM_readStep_28 : decode cM_readStep 28 = .ok (.bipush 6, 2) := by decide +kernel
theorem ddM_readStep_30 : decode cM_readStep 30 = .ok (.if_icmp .ne 15, 3) := by decide +kernel
theorem ddM_readStep_33 : decode cM_readStep 33 = .ok (.aload_n 0, 1) := by decide +kernel
theorem ddM_readStep_34 : decode cM_readStep 34 = .ok (.getfield 131, 3) := by decide +kernel
theorem ddM_readStep_37 : decode cM_readStep 37 = .ok (.ifCond .ne 8, 3) := by decide +kernel
theorem ddM_readStep_40 : decode cM_readStep 40 = .ok (.aload_n 0, 1) := by decide +kernel
theorem ddM_readStep_41 : decode cM_readStep 41 = .ok (.invokevirtual 96, 3) := by decide +kernel
theorem ddM_readStep_44 : decode cM_readStep 44 = .ok (.return_, 1) := by decide +kernel
theorem ddM_readStep_45 : decode cM_readStep 45 = .ok (.aload_n 0, 1) := by decide +kernel
theorem ddM_readStep_46 : decode cM_readStep 46 = .ok (.dup, 1) := by decide +kernel
theorem ddM_readStep_47 : decode cM_readStep 47 = .ok (.getfield 79, 3) := by decide +kernel
theorem ddM_readStep_50 : decode cM_readStep 50 = .ok (.iconst 1, 1) := by decide +kernel
theorem ddM_readStep_51 : decode cM_readStep 51 = .ok (.iadd, 1) := by decide +kernel
theorem ddM_readStep_52 : decode cM_readStep 52 = .ok (.putfield 79, 3) := by decide +kernel
theorem ddM_readStep_55 : decode cM_readStep 55 = .ok (.aload_n 0, 1) := by decide +kernel
theorem ddM_readStep_56 : decode cM_readStep 56 = .ok (.dup, 1) := by decide +kernel
theorem ddM_readStep_57 : decode cM_readStep 57 = .ok (.getfield 131, 3) := by decide +kernel
theorem ddM_readStep_60 : decode cM_readStep 60 = .ok (.iload_n 2, 1) := by decide +kernel
theorem ddM_readStep_61 : decode cM_readStep 61 = .ok (.iconst 5, 1) := by decide +kernel
theorem ddM_readStep_62 : decode cM_readStep 62 = .ok (.if_icmp .ne 7, 3) := by decide +kernel
theorem ddM_readStep_65 : decode cM_readStep 65 = .ok (.iconst 1, 1) := by decide +kernel
theorem ddM_readStep_66 : decode cM_readStep 66 = .ok (.goto 14, 3) := by decide +kernel
theorem ddM_readStep_69 : decode cM_readStep 69 = .ok (.iload_n 2, 1) := by decide +kernel
theorem ddM_readStep_70 : decode cM_readStep 70 = .ok (.bipush 6, 2) := by decide +kernel
theorem ddM_readStep_72 : decode cM_readStep 72 = .ok (.if_icmp .ne 7, 3) := by decide +kernel
theorem ddM_readStep_75 : decode cM_readStep 75 = .ok (.iconst (-1), 1) := by decide +kernel
theorem ddM_readStep_76 : decode cM_readStep 76 = .ok (.goto 4, 3) := by decide +kernel
theorem ddM_readStep_79 : decode cM_readStep 79 = .ok (.iconst 0, 1) := by decide +kernel
theorem ddM_readStep_80 : decode cM_readStep 80 = .ok (.iadd, 1) := by decide +kernel
theorem ddM_readStep_81 : decode cM_readStep 81 = .ok (.putfield 131, 3) := by decide +kernel
theorem ddM_readStep_84 : decode cM_readStep 84 = .ok (.aload_n 0, 1) := by decide +kernel
theorem ddM_readStep_85 : decode cM_readStep 85 = .ok (.getfield 25, 3) := by decide +kernel
theorem ddM_readStep_88 : decode cM_readStep 88 = .ok (.iload_n 1, 1) := by decide +kernel
theorem ddM_readStep_89 : decode cM_readStep 89 = .ok (.iload_n 2, 1) := by decide +kernel
theorem ddM_readStep_90 : decode cM_readStep 90 = .ok (.iastore, 1) := by decide +kernel
theorem ddM_readStep_91 : decode cM_readStep 91 = .ok (.aload_n 0, 1) := by decide +kernel
theorem ddM_readStep_92 : decode cM_readStep 92 = .ok (.getfield 25, 3) := by decide +kernel
theorem ddM_readStep_95 : decode cM_readStep 95 = .ok (.iload_n 1, 1) := by decide +kernel
theorem ddM_readStep_96 : decode cM_readStep 96 = .ok (.iconst 1, 1) := by decide +kernel
theorem ddM_readStep_97 : decode cM_readStep 97 = .ok (.iadd, 1) := by decide +kernel
theorem ddM_readStep_98 : decode cM_readStep 98 = .ok (.iconst (-1), 1) := by decide +kernel
theorem ddM_readStep_99 : decode cM_readStep 99 = .ok (.iastore, 1) := by decide +kernel
theorem ddM_readStep_100 : decode cM_readStep 100 = .ok (.aload_n 0, 1) := by decide +kernel
theorem ddM_readStep_101 : decode cM_readStep 101 = .ok (.getfield 25, 3) := by decide +kernel
theorem ddM_readStep_104 : decode cM_readStep 104 = .ok (.iload_n 1, 1) := by decide +kernel
theorem ddM_readStep_105 : decode cM_readStep 105 = .ok (.iconst 2, 1) := by decide +kernel
theorem ddM_readStep_106 : decode cM_readStep 106 = .ok (.iadd, 1) := by decide +kernel
theorem ddM_readStep_107 : decode cM_readStep 107 = .ok (.iconst (-1), 1) := by decide +kernel
theorem ddM_readStep_108 : decode cM_readStep 108 = .ok (.iastore, 1) := by decide +kernel
theorem ddM_readStep_109 : decode cM_readStep 109 = .ok (.iload_n 2, 1) := by decide +kernel
theorem ddM_readStep_110 : decode cM_readStep 110 = .ok (.iconst 5, 1) := by decide +kernel
theorem ddM_readStep_111 : decode cM_readStep 111 = .ok (.if_icmp .lt 4, 3) := by decide +kernel
theorem ddM_readStep_114 : decode cM_readStep 114 = .ok (.return_, 1) := by decide +kernel
theorem ddM_readStep_115 : decode cM_readStep 115 = .ok (.aload_n 0, 1) := by decide +kernel
theorem ddM_readStep_116 : decode cM_readStep 116 = .ok (.invokevirtual 89, 3) := by decide +kernel
theorem ddM_readStep_119 : decode cM_readStep 119 = .ok (.invokestatic 92, 3) := by decide +kernel
theorem ddM_readStep_122 : decode cM_readStep 122 = .ok (.ifCond .ne 8, 3) := by decide +kernel
theorem ddM_readStep_125 : decode cM_readStep 125 = .ok (.aload_n 0, 1) := by decide +kernel
theorem ddM_readStep_126 : decode cM_readStep 126 = .ok (.invokevirtual 96, 3) := by decide +kernel
theorem ddM_readStep_129 : decode cM_readStep 129 = .ok (.return_, 1) := by decide +kernel
theorem ddM_readStep_130 : decode cM_readStep 130 = .ok (.aload_n 0, 1) := by decide +kernel
theorem ddM_readStep_131 : decode cM_readStep 131 = .ok (.getfield 25, 3) := by decide +kernel
theorem ddM_readStep_134 : decode cM_readStep 134 = .ok (.iload_n 1, 1) := by decide +kernel
theorem ddM_readStep_135 : decode cM_readStep 135 = .ok (.iconst 1, 1) := by decide +kernel
theorem ddM_readStep_136 : decode cM_readStep 136 = .ok (.iadd, 1) := by decide +kernel
theorem ddM_readStep_137 : decode cM_readStep 137 = .ok (.aload_n 0, 1) := by decide +kernel
theorem ddM_readStep_138 : decode cM_readStep 138 = .ok (.invokevirtual 82, 3) := by decide +kernel
theorem ddM_readStep_141 : decode cM_readStep 141 = .ok (.bipush 48, 2) := by decide +kernel
theorem ddM_readStep_143 : decode cM_readStep 143 = .ok (.isub, 1) := by decide +kernel
theorem ddM_readStep_144 : decode cM_readStep 144 = .ok (.iastore, 1) := by decide +kernel
theorem ddM_readStep_145 : decode cM_readStep 145 = .ok (.aload_n 0, 1) := by decide +kernel
theorem ddM_readStep_146 : decode cM_readStep 146 = .ok (.dup, 1) := by decide +kernel
theorem ddM_readStep_147 : decode cM_readStep 147 = .ok (.getfield 79, 3) := by decide +kernel
theorem ddM_readStep_150 : decode cM_readStep 150 = .ok (.iconst 1, 1) := by decide +kernel
theorem ddM_readStep_151 : decode cM_readStep 151 = .ok (.iadd, 1) := by decide +kernel
theorem ddM_readStep_152 : decode cM_readStep 152 = .ok (.putfield 79, 3) := by decide +kernel
theorem ddM_readStep_155 : decode cM_readStep 155 = .ok (.iload_n 2, 1) := by decide +kernel
theorem ddM_readStep_156 : decode cM_readStep 156 = .ok (.iconst 1, 1) := by decide +kernel
theorem ddM_readStep_157 : decode cM_readStep 157 = .ok (.if_icmp .le 4, 3) := by decide +kernel
theorem ddM_readStep_160 : decode cM_readStep 160 = .ok (.return_, 1) := by decide +kernel
theorem ddM_readStep_161 : decode cM_readStep 161 = .ok (.aload_n 0, 1) := by decide +kernel
theorem ddM_readStep_162 : decode cM_readStep 162 = .ok (.invokevirtual 89, 3) := by decide +kernel
theorem ddM_readStep_165 : decode cM_readStep 165 = .ok (.bipush 58, 2) := by decide +kernel
theorem ddM_readStep_167 : decode cM_readStep 167 = .ok (.if_icmp .eq 8, 3) := by decide +kernel
theorem ddM_readStep_170 : decode cM_readStep 170 = .ok (.aload_n 0, 1) := by decide +kernel
theorem ddM_readStep_171 : decode cM_readStep 171 = .ok (.invokevirtual 96, 3) := by decide +kernel
theorem ddM_readStep_174 : decode cM_readStep 174 = .ok (.return_, 1) := by decide +kernel
theorem ddM_readStep_175 : decode cM_readStep 175 = .ok (.aload_n 0, 1) := by decide +kernel
theorem ddM_readStep_176 : decode cM_readStep 176 = .ok (.dup, 1) := by decide +kernel
theorem ddM_readStep_177 : decode cM_readStep 177 = .ok (.getfield 79, 3) := by decide +kernel
theorem ddM_readStep_180 : decode cM_readStep 180 = .ok (.iconst 1, 1) := by decide +kernel
theorem ddM_readStep_181 : decode cM_readStep 181 = .ok (.iadd, 1) := by decide +kernel
theorem ddM_readStep_182 : decode cM_readStep 182 = .ok (.putfield 79, 3) := by decide +kernel
theorem ddM_readStep_185 : decode cM_readStep 185 = .ok (.aload_n 0, 1) := by decide +kernel
theorem ddM_readStep_186 : decode cM_readStep 186 = .ok (.getfield 25, 3) := by decide +kernel
theorem ddM_readStep_189 : decode cM_readStep 189 = .ok (.iload_n 1, 1) := by decide +kernel
theorem ddM_readStep_190 : decode cM_readStep 190 = .ok (.iconst 2, 1) := by decide +kernel
theorem ddM_readStep_191 : decode cM_readStep 191 = .ok (.iadd, 1) := by decide +kernel
theorem ddM_readStep_192 : decode cM_readStep 192 = .ok (.aload_n 0, 1) := by decide +kernel
theorem ddM_readStep_193 : decode cM_readStep 193 = .ok (.iload_n 2, 1) := by decide +kernel
theorem ddM_readStep_194 : decode cM_readStep 194 = .ok (.ifCond .ne 7, 3) := by decide +kernel
theorem ddM_readStep_197 : decode cM_readStep 197 = .ok (.iconst 1, 1) := by decide +kernel
theorem ddM_readStep_198 : decode cM_readStep 198 = .ok (.goto 4, 3) := by decide +kernel
theorem ddM_readStep_201 : decode cM_readStep 201 = .ok (.iconst 0, 1) := by decide +kernel
theorem ddM_readStep_202 : decode cM_readStep 202 = .ok (.iload_n 2, 1) := by decide +kernel
theorem ddM_readStep_203 : decode cM_readStep 203 = .ok (.ifCond .ne 8, 3) := by decide +kernel
theorem ddM_readStep_206 : decode cM_readStep 206 = .ok (.bipush 40, 2) := by decide +kernel
theorem ddM_readStep_208 : decode cM_readStep 208 = .ok (.goto 5, 3) := by decide +kernel
theorem ddM_readStep_211 : decode cM_readStep 211 = .ok (.bipush 23, 2) := by decide +kernel
theorem ddM_readStep_213 : decode cM_readStep 213 = .ok (.invokevirtual 113, 3) := by decide +kernel
theorem ddM_readStep_216 : decode cM_readStep 216 = .ok (.iastore, 1) := by decide +kernel
theorem ddM_readStep_217 : decode cM_readStep 217 = .ok (.return_, 1) := by decide +kernel
set_option maxHeartbeats 2000000 in
theorem zBM_readStep_213 {G : GXM} {X : CxM} (hG : GokM G) (C : CoM G X cM_readStep "HomeFreedModel") (N : mLM X = 3) {d : Nat} (hD : dpM X = d) (hd : 3 ≤ d)  {q : Mem} (E : EnM G X none none q 0 0) {w0 : Nat} {w1 : Int32} {w2 : Nat} {w3 : Int32} {w4 : Int32} {M : Mem} (h : BM_readStep_213 w0 w1 w2 w3 w4 M = some q) : ZM G X 213 [] [.int w4, .int w3, .ref w2, .int w1, .ref w0] M 0 0 := by
  unfold BM_readStep_213 at h
  obtain ⟨h2, h⟩ := gdN h
  obtain ⟨q1, hq1, h⟩ := bindN h
  refine zz_callV0 (As := [.int w3, .int w4]) C ddM_readStep_213 wd_1324 my_M_number mv_M_number ⟨_, rfl, rfl⟩ (xM_number hG (d - 1) (by omega) hq1) (by omega) h2 rfl rfl (Nat.le_of_ble_eq_true rfl) ?_
  obtain ⟨h3, h⟩ := gdN h
  refine zz_iastore C ddM_readStep_216 h3 ?_
  obtain rfl := Option.some.inj h
  exact zz_vret C E ddM_readStep_217
set_option maxHeartbeats 2000000 in
theorem zBM_readStep_202 {G : GXM} {X : CxM} (hG : GokM G) (C : CoM G X cM_readStep "HomeFreedModel") (N : mLM X = 3) {d : Nat} (hD : dpM X = d) (hd : 3 ≤ d)  {q : Mem} (E : EnM G X none none q 0 0) {v2 : Int32} {w0 : Nat} {w1 : Int32} {w2 : Nat} {w3 : Int32} {M : Mem} (h : BM_readStep_202 v2 w0 w1 w2 w3 M = some q) : ZM G X 202 [(2, .int v2)] [.int w3, .ref w2, .int w1, .ref w0] M 0 0 := by
  unfold BM_readStep_202 at h
  refine zz_iload_n C 0 ddM_readStep_202 rfl rfl ?_
  refine zz_if_ne (tgt := 211) C ddM_readStep_203 rfl (fun hc => ?_) (fun hc => ?_)
  · replace h := iteF h hc
    refine zz_bipush (v := 23) C ddM_readStep_211 (by decide) ?_
    refine zz_loc (L1 := []) [] rfl ?_
    exact zBM_readStep_213 hG C N hD hd E h
  · replace h := iteT h hc
    refine zz_bipush (v := 40) C ddM_readStep_206 (by decide) ?_
    refine zz_goto (tgt := 213) C ddM_readStep_208 rfl ?_
    refine zz_loc (L1 := []) [] rfl ?_
    exact zBM_readStep_213 hG C N hD hd E h
set_option maxHeartbeats 2000000 in
theorem zBM_readStep_80 {G : GXM} {X : CxM} (hG : GokM G) (C : CoM G X cM_readStep "HomeFreedModel") (N : mLM X = 3) {d : Nat} (hD : dpM X = d) (hd : 3 ≤ d)  {q : Mem} (E : EnM G X none none q 0 0) {v0 : Nat} {v1 : Int32} {v2 : Int32} {w0 : Nat} {w1 : Int32} {w2 : Int32} {M : Mem} (h : BM_readStep_80 v0 v1 v2 w0 w1 w2 M = some q) : ZM G X 80 [(0, .ref v0), (1, .int v1), (2, .int v2)] [.int w2, .int w1, .ref w0] M 0 0 := by
  unfold BM_readStep_80 at h
  refine zz_iadd C ddM_readStep_80 ?_
  obtain ⟨h1, h⟩ := gdN h
  refine zz_puti C ddM_readStep_81 fl_M_131 rfl rfl rfl h1 ?_
  refine zz_aload_n C 0 ddM_readStep_84 rfl rfl ?_
  obtain ⟨h2, h⟩ := gdN h
  obtain ⟨h3, h⟩ := gdN h
  refine zz_getr C ddM_readStep_85 fl_M_25 rfl h2 (of_decide_eq_true h3) ?_
  refine zz_iload_n C 1 ddM_readStep_88 rfl rfl ?_
  refine zz_iload_n C 2 ddM_readStep_89 rfl rfl ?_
  obtain ⟨h4, h⟩ := gdN h
  refine zz_iastore C ddM_readStep_90 h4 ?_
  refine zz_aload_n C 0 ddM_readStep_91 rfl rfl ?_
  refine zz_getr C ddM_readStep_92 fl_M_25 rfl h2 (of_decide_eq_true h3) ?_
  refine zz_iload_n C 1 ddM_readStep_95 rfl rfl ?_
  refine zz_iconst (v := 1) C ddM_readStep_96 (by decide) ?_
  refine zz_iadd C ddM_readStep_97 ?_
  refine zz_iconst (v := (-1)) C ddM_readStep_98 (by decide) ?_
  obtain ⟨h5, h⟩ := gdN h
  refine zz_iastore C ddM_readStep_99 h5 ?_
  refine zz_aload_n C 0 ddM_readStep_100 rfl rfl ?_
  refine zz_getr C ddM_readStep_101 fl_M_25 rfl h2 (of_decide_eq_true h3) ?_
  refine zz_iload_n C 1 ddM_readStep_104 rfl rfl ?_
  refine zz_iconst (v := 2) C ddM_readStep_105 (by decide) ?_
  refine zz_iadd C ddM_readStep_106 ?_
  refine zz_iconst (v := (-1)) C ddM_readStep_107 (by decide) ?_
  obtain ⟨h6, h⟩ := gdN h
  refine zz_iastore C ddM_readStep_108 h6 ?_
  refine zz_iload_n C 2 ddM_readStep_109 rfl rfl ?_
  refine zz_iconst (v := 5) C ddM_readStep_110 (by decide) ?_
  refine zz_icmp_lt (tgt := 115) C ddM_readStep_111 rfl (fun hc => ?_) (fun hc => ?_)
  · replace h := iteT h hc
    refine zz_aload_n C 0 ddM_readStep_115 rfl rfl ?_
    obtain ⟨q7, hq7, h⟩ := bindN h
    refine zz_callV0 (As := []) C ddM_readStep_116 wd_1303 my_M_ahead mv_M_ahead ⟨_, rfl, rfl⟩ (xM_ahead hG (d - 1) (by omega) hq7) (by omega) h2 rfl rfl (Nat.le_of_ble_eq_true rfl) ?_
    obtain ⟨q8, hq8, h⟩ := bindN h
    refine zz_callS0 (As := [.int q7.1]) C ddM_readStep_119 wd_1328 my_M_isDigit mv_M_isDigit (xM_isDigit hG (d - 1) (by omega) hq8) (by omega) rfl rfl (Nat.le_of_ble_eq_true rfl) ?_
    refine zz_if_ne (tgt := 130) C ddM_readStep_122 rfl (fun hc => ?_) (fun hc => ?_)
    · replace h := iteF h hc
      refine zz_aload_n C 0 ddM_readStep_130 rfl rfl ?_
      obtain ⟨h9, h⟩ := gdN h
      obtain ⟨h10, h⟩ := gdN h
      refine zz_getr C ddM_readStep_131 fl_M_25 rfl h9 (of_decide_eq_true h10) ?_
      refine zz_iload_n C 1 ddM_readStep_134 rfl rfl ?_
      refine zz_iconst (v := 1) C ddM_readStep_135 (by decide) ?_
      refine zz_iadd C ddM_readStep_136 ?_
      refine zz_aload_n C 0 ddM_readStep_137 rfl rfl ?_
      obtain ⟨q11, hq11, h⟩ := bindN h
      refine zz_callV0 (As := []) C ddM_readStep_138 wd_1307 my_M_here mv_M_here ⟨_, rfl, rfl⟩ (xM_here hG (d - 1) (by omega) hq11) (by omega) h9 rfl rfl (Nat.le_of_ble_eq_true rfl) ?_
      refine zz_bipush (v := 48) C ddM_readStep_141 (by decide) ?_
      refine zz_isub C ddM_readStep_143 ?_
      obtain ⟨h12, h⟩ := gdN h
      refine zz_iastore C ddM_readStep_144 h12 ?_
      refine zz_aload_n C 0 ddM_readStep_145 rfl rfl ?_
      refine zz_dup C ddM_readStep_146 rfl ?_
      obtain ⟨h13, h⟩ := gdN h
      refine zz_geti C ddM_readStep_147 fl_M_79 rfl h13 ?_
      refine zz_iconst (v := 1) C ddM_readStep_150 (by decide) ?_
      refine zz_iadd C ddM_readStep_151 ?_
      refine zz_puti C ddM_readStep_152 fl_M_79 rfl rfl rfl h13 ?_
      refine zz_iload_n C 2 ddM_readStep_155 rfl rfl ?_
      refine zz_iconst (v := 1) C ddM_readStep_156 (by decide) ?_
      refine zz_icmp_le (tgt := 161) C ddM_readStep_157 rfl (fun hc => ?_) (fun hc => ?_)
      · replace h := iteT h hc
        refine zz_aload_n C 0 ddM_readStep_161 rfl rfl ?_
        obtain ⟨q14, hq14, h⟩ := bindN h
        refine zz_callV0 (As := []) C ddM_readStep_162 wd_1303 my_M_ahead mv_M_ahead ⟨_, rfl, rfl⟩ (xM_ahead hG (d - 1) (by omega) hq14) (by omega) h13 rfl rfl (Nat.le_of_ble_eq_true rfl) ?_
        refine zz_bipush (v := 58) C ddM_readStep_165 (by decide) ?_
        refine zz_icmp_eq (tgt := 175) C ddM_readStep_167 rfl (fun hc => ?_) (fun hc => ?_)
        · replace h := iteT h hc
          refine zz_aload_n C 0 ddM_readStep_175 rfl rfl ?_
          refine zz_dup C ddM_readStep_176 rfl ?_
          obtain ⟨h15, h⟩ := gdN h
          refine zz_geti C ddM_readStep_177 fl_M_79 rfl h15 ?_
          refine zz_iconst (v := 1) C ddM_readStep_180 (by decide) ?_
          refine zz_iadd C ddM_readStep_181 ?_
          refine zz_puti C ddM_readStep_182 fl_M_79 rfl rfl rfl h15 ?_
          refine zz_aload_n C 0 ddM_readStep_185 rfl rfl ?_
          obtain ⟨h16, h⟩ := gdN h
          refine zz_getr C ddM_readStep_186 fl_M_25 rfl h15 (of_decide_eq_true h16) ?_
          refine zz_iload_n C 1 ddM_readStep_189 rfl rfl ?_
          refine zz_iconst (v := 2) C ddM_readStep_190 (by decide) ?_
          refine zz_iadd C ddM_readStep_191 ?_
          refine zz_aload_n C 0 ddM_readStep_192 rfl rfl ?_
          refine zz_iload_n C 2 ddM_readStep_193 rfl rfl ?_
          refine zz_if_ne (tgt := 201) C ddM_readStep_194 rfl (fun hc => ?_) (fun hc => ?_)
          · replace h := iteF h hc
            refine zz_iconst (v := 0) C ddM_readStep_201 (by decide) ?_
            refine zz_loc (L1 := [(2, .int v2)]) [2] rfl ?_
            exact zBM_readStep_202 hG C N hD hd E h
          · replace h := iteT h hc
            refine zz_iconst (v := 1) C ddM_readStep_197 (by decide) ?_
            refine zz_goto (tgt := 202) C ddM_readStep_198 rfl ?_
            refine zz_loc (L1 := [(2, .int v2)]) [2] rfl ?_
            exact zBM_readStep_202 hG C N hD hd E h
        · replace h := iteF h hc
          refine zz_aload_n C 0 ddM_readStep_170 rfl rfl ?_
          obtain ⟨h18, h⟩ := gdN h
          obtain ⟨q17, hq17, h⟩ := bindN h
          refine zz_callV0 (As := []) C ddM_readStep_171 wd_1331 my_M_bad mv_M_bad ⟨_, rfl, rfl⟩ (xM_bad hG (d - 1) (by omega) hq17) (by omega) h18 rfl rfl (Nat.le_of_ble_eq_true rfl) ?_
          obtain rfl := Option.some.inj h
          exact zz_vret C E ddM_readStep_174
      · replace h := iteF h hc
        obtain rfl := Option.some.inj h
        exact zz_vret C E ddM_readStep_160
    · replace h := iteT h hc
      refine zz_aload_n C 0 ddM_readStep_125 rfl rfl ?_
      obtain ⟨h20, h⟩ := gdN h
      obtain ⟨q19, hq19, h⟩ := bindN h
      refine zz_callV0 (As := []) C ddM_readStep_126 wd_1331 my_M_bad mv_M_bad ⟨_, rfl, rfl⟩ (xM_bad hG (d - 1) (by omega) hq19) (by omega) h20 rfl rfl (Nat.le_of_ble_eq_true rfl) ?_
      obtain rfl := Option.some.inj h
      exact zz_vret C E ddM_readStep_129
  · replace h := iteF h hc
    obtain rfl := Option.some.inj h
    exact zz_vret C E ddM_readStep_114
set_option maxHeartbeats 2000000 in
theorem zBM_readStep_45 {G : GXM} {X : CxM} (hG : GokM G) (C : CoM G X cM_readStep "HomeFreedModel") (N : mLM X = 3) {d : Nat} (hD : dpM X = d) (hd : 3 ≤ d)  {q : Mem} (E : EnM G X none none q 0 0) {v0 : Nat} {v1 : Int32} {v2 : Int32} {M : Mem} (h : BM_readStep_45 v0 v1 v2 M = some q) : ZM G X 45 [(0, .ref v0), (1, .int v1), (2, .int v2)] [] M 0 0 := by
  unfold BM_readStep_45 at h
  refine zz_aload_n C 0 ddM_readStep_45 rfl rfl ?_
  refine zz_dup C ddM_readStep_46 rfl ?_
  obtain ⟨h1, h⟩ := gdN h
  refine zz_geti C ddM_readStep_47 fl_M_79 rfl h1 ?_
  refine zz_iconst (v := 1) C ddM_readStep_50 (by decide) ?_
  refine zz_iadd C ddM_readStep_51 ?_
  refine zz_puti C ddM_readStep_52 fl_M_79 rfl rfl rfl h1 ?_
  refine zz_aload_n C 0 ddM_readStep_55 rfl rfl ?_
  refine zz_dup C ddM_readStep_56 rfl ?_
  refine zz_geti C ddM_readStep_57 fl_M_131 rfl h1 ?_
  refine zz_iload_n C 2 ddM_readStep_60 rfl rfl ?_
  refine zz_iconst (v := 5) C ddM_readStep_61 (by decide) ?_
  refine zz_icmp_ne (tgt := 69) C ddM_readStep_62 rfl (fun hc => ?_) (fun hc => ?_)
  · replace h := iteF h hc
    refine zz_iload_n C 2 ddM_readStep_69 rfl rfl ?_
    refine zz_bipush (v := 6) C ddM_readStep_70 (by decide) ?_
    refine zz_icmp_ne (tgt := 79) C ddM_readStep_72 rfl (fun hc => ?_) (fun hc => ?_)
    · replace h := iteF h hc
      refine zz_iconst (v := 0) C ddM_readStep_79 (by decide) ?_
      exact zBM_readStep_80 hG C N hD hd E h
    · replace h := iteT h hc
      refine zz_iconst (v := (-1)) C ddM_readStep_75 (by decide) ?_
      refine zz_goto (tgt := 80) C ddM_readStep_76 rfl ?_
      exact zBM_readStep_80 hG C N hD hd E h
  · replace h := iteT h hc
    refine zz_iconst (v := 1) C ddM_readStep_65 (by decide) ?_
    refine zz_goto (tgt := 80) C ddM_readStep_66 rfl ?_
    exact zBM_readStep_80 hG C N hD hd E h
set_option maxHeartbeats 2000000 in
theorem zBM_readStep_40 {G : GXM} {X : CxM} (hG : GokM G) (C : CoM G X cM_readStep "HomeFreedModel") (N : mLM X = 3) {d : Nat} (hD : dpM X = d) (hd : 3 ≤ d)  {q : Mem} (E : EnM G X none none q 0 0) {v0 : Nat} {M : Mem} (h : BM_readStep_40 v0 M = some q) : ZM G X 40 [(0, .ref v0)] [] M 0 0 := by
  unfold BM_readStep_40 at h
  refine zz_aload_n C 0 ddM_readStep_40 rfl rfl ?_
  obtain ⟨h2, h⟩ := gdN h
  obtain ⟨q1, hq1, h⟩ := bindN h
  refine zz_callV0 (As := []) C ddM_readStep_41 wd_1331 my_M_bad mv_M_bad ⟨_, rfl, rfl⟩ (xM_bad hG (d - 1) (by omega) hq1) (by omega) h2 rfl rfl (Nat.le_of_ble_eq_true rfl) ?_
  obtain rfl := Option.some.inj h
  exact zz_vret C E ddM_readStep_44
set_option maxHeartbeats 2000000 in
theorem zBM_readStep_27 {G : GXM} {X : CxM} (hG : GokM G) (C : CoM G X cM_readStep "HomeFreedModel") (N : mLM X = 3) {d : Nat} (hD : dpM X = d) (hd : 3 ≤ d)  {q : Mem} (E : EnM G X none none q 0 0) {v0 : Nat} {v1 : Int32} {v2 : Int32} {M : Mem} (h : BM_readStep_27 v0 v1 v2 M = some q) : ZM G X 27 [(0, .ref v0), (1, .int v1), (2, .int v2)] [] M 0 0 := by
  unfold BM_readStep_27 at h
  refine zz_iload_n C 2 ddM_readStep_27 rfl rfl ?_
  refine zz_bipush (v := 6) C ddM_readStep_28 (by decide) ?_
  refine zz_icmp_ne (tgt := 45) C ddM_readStep_30 rfl (fun hc => ?_) (fun hc => ?_)
  · replace h := iteF h hc
    exact zBM_readStep_45 hG C N hD hd E h
  · replace h := iteT h hc
    refine zz_aload_n C 0 ddM_readStep_33 rfl rfl ?_
    obtain ⟨h1, h⟩ := gdN h
    refine zz_geti C ddM_readStep_34 fl_M_131 rfl h1 ?_
    refine zz_if_ne (tgt := 45) C ddM_readStep_37 rfl (fun hc => ?_) (fun hc => ?_)
    · replace h := iteF h hc
      exact zBM_readStep_45 hG C N hD hd E h
    · replace h := iteT h hc
      refine zz_loc (L1 := [(0, .ref v0)]) [0] rfl ?_
      exact zBM_readStep_40 hG C N hD hd E h
set_option maxHeartbeats 2000000 in
theorem xM_readStep {G : GXM} {l : Launch} (hG : GokM G) (d : Nat) (hd : 3 ≤ d) {v0 : Nat} {v1 : Int32} {M : Mem} {q : Mem} (h : fM_readStep v0 v1 M = some q) : ExM G l d 0 0 yM_readStep cM_readStep 3 none [.ref v0, .int v1] M none q := by
  refine ex_of hG (by decide) (Nat.le_of_ble_eq_true rfl) ?_
  intro X hl C E N hD hn
  show ZM G X 0 [(2, .int v2), (0, .ref v0), (1, .int v1)] [] M 0 0
  unfold fM_readStep at h
  refine zz_aload_n C 0 ddM_readStep_0 rfl rfl ?_
  obtain ⟨h2, h⟩ := gdN h
  obtain ⟨q1, hq1, h⟩ := bindN h
  refine zz_callV0 (As := []) C ddM_readStep_1 wd_1303 my_M_ahead mv_M_ahead ⟨_, rfl, rfl⟩ (xM_ahead hG (d - 1) (by omega) hq1) (by omega) h2 rfl rfl (Nat.le_of_ble_eq_true rfl) ?_
  obtain ⟨q3, hq3, h⟩ := bindN h
  refine zz_callS0 (As := [.int q1.1]) C ddM_readStep_4 wd_1347 my_M_sortOf mv_M_sortOf (xM_sortOf hG (d - 1) (by omega) hq3) (by omega) rfl rfl (Nat.le_of_ble_eq_true rfl) ?_
  refine zz_istore_n (L1 := [(2, .int q3.1), (0, .ref v0), (1, .int v1)]) C ddM_readStep_7 rfl N (by decide) rfl ?_
  refine zz_iload_n C 0 ddM_readStep_8 rfl rfl ?_
  refine zz_iconst (v := (-1)) C ddM_readStep_9 (by decide) ?_
  refine zz_icmp_eq (tgt := 40) C ddM_readStep_10 rfl (fun hc => ?_) (fun hc => ?_)
  · replace h := iteT h hc
    refine zz_loc (L1 := [(0, .ref v0)]) [1] rfl ?_
    exact zBM_readStep_40 hG C N hD hd E h
  · replace h := iteF h hc
    refine zz_iload_n C 0 ddM_readStep_13 rfl rfl ?_
    refine zz_iconst (v := 5) C ddM_readStep_14 (by decide) ?_
    refine zz_icmp_ne (tgt := 27) C ddM_readStep_15 rfl (fun hc => ?_) (fun hc => ?_)
    · replace h := iteF h hc
      refine zz_loc (L1 := [(0, .ref v0), (1, .int v1), (2, .int q3.1)]) [1, 2, 0] rfl ?_
      exact zBM_readStep_27 hG C N hD hd E h
    · replace h := iteT h hc
      refine zz_aload_n C 1 ddM_readStep_18 rfl rfl ?_
      obtain ⟨h4, h⟩ := gdN h
      refine zz_geti C ddM_readStep_19 fl_M_131 rfl h4 ?_
      refine zz_bipush (v := 6) C ddM_readStep_22 (by decide) ?_
      refine zz_icmp_eq (tgt := 40) C ddM_readStep_24 rfl (fun hc => ?_) (fun hc => ?_)
      · replace h := iteT h hc
        refine zz_loc (L1 := [(0, .ref v0)]) [1] rfl ?_
        exact zBM_readStep_40 hG C N hD hd E h
      · replace h := iteF h hc
        refine zz_loc (L1 := [(0, .ref v0), (1, .int v1), (2, .int q3.1)]) [1, 2, 0] rfl ?_
        exact zBM_readStep_27 hG C N hD hd E h
theorem ddM_readScript_0 : decode cM_readScript 0 = .ok (.aload_n 0, 1) := by decide +kernel
theorem ddM_readScript_1 : decode cM_readScript 1 = .ok (.iconst 0, 1) := by decide +kernel
theorem ddM_readScript_2 : decode cM_readScript 2 = .ok (.putfield 79, 3) := by decide +kernel
theorem ddM_readScript_5 : decode cM_readScript 5 = .ok (.aload_n 0, 1) := by decide +kernel
theorem ddM_readScript_6 : decode cM_readScript 6 = .ok (.iconst (-1), 1) := by decide +kernel
theorem ddM_readScript_7 : decode cM_readScript 7 = .ok (.putfield 86, 3) := by decide +kernel
theorem ddM_readScript_10 : decode cM_readScript 10 = .ok (.aload_n 0, 1) := by decide +kernel
theorem ddM_readScript_11 : decode cM_readScript 11 = .ok (.getfield 28, 3) := by decide +kernel
theorem ddM_readScript_14 : decode cM_readScript 14 = .ok (.iload_n 1, 1) := by decide +kernel
theorem ddM_readScript_15 : decode cM_readScript 15 = .ok (.iconst 0, 1) := by decide +kernel
theorem ddM_readScript_16 : decode cM_readScript 16 = .ok (.iastore, 1) := by decide +kernel
theorem ddM_readScript_17 : decode cM_readScript 17 = .ok (.aload_n 0, 1) := by decide +kernel
theorem ddM_readScript_18 : decode cM_readScript 18 = .ok (.iconst 0, 1) := by decide +kernel
theorem ddM_readScript_19 : decode cM_readScript 19 = .ok (.putfield 131, 3) := by decide +kernel
theorem ddM_readScript_22 : decode cM_readScript 22 = .ok (.iconst 1, 1) := by decide +kernel
theorem ddM_readScript_23 : decode cM_readScript 23 = .ok (.istore_n 2, 1) := by decide +kernel
theorem ddM_readScript_24 : decode cM_readScript 24 = .ok (.iload_n 2, 1) := by decide +kernel
theorem ddM_readScript_25 : decode cM_readScript 25 = .ok (.ifCond .eq 85, 3) := by decide +kernel
theorem ddM_readScript_28 : decode cM_readScript 28 = .ok (.aload_n 0, 1) := by decide +kernel
theorem ddM_readScript_29 : decode cM_readScript 29 = .ok (.iconst 3, 1) := by decide +kernel
theorem ddM_readScript_30 : decode cM_readScript 30 = .ok (.bipush 24, 2) := by decide +kernel
theorem ddM_readScript_32 : decode cM_readScript 32 = .ok (.iload_n 1, 1) := by decide +kernel
theorem ddM_readScript_33 : decode cM_readScript 33 = .ok (.imul, 1) := by decide +kernel
theorem ddM_readScript_34 : decode cM_readScript 34 = .ok (.aload_n 0, 1) := by decide +kernel
theorem ddM_readScript_35 : decode cM_readScript 35 = .ok (.getfield 28, 3) := by decide +kernel
theorem ddM_readScript_38 : decode cM_readScript 38 = .ok (.iload_n 1, 1) := by decide +kernel
theorem ddM_readScript_39 : decode cM_readScript 39 = .ok (.iaload, 1) := by decide +kernel
theorem ddM_readScript_40 : decode cM_readScript 40 = .ok (.iadd, 1) := by decide +kernel
theorem ddM_readScript_41 : decode cM_readScript 41 = .ok (.imul, 1) := by decide +kernel
theorem ddM_readScript_42 : decode cM_readScript 42 = .ok (.invokevirtual 134, 3) := by decide +kernel
theorem ddM_readScript_45 : decode cM_readScript 45 = .ok (.aload_n 0, 1) := by decide +kernel
theorem ddM_readScript_46 : decode cM_readScript 46 = .ok (.getfield 28, 3) := by decide +kernel
theorem ddM_readScript_49 : decode cM_readScript 49 = .ok (.iload_n 1, 1) := by decide +kernel
theorem ddM_readScript_50 : decode cM_readScript 50 = .ok (.dup2, 1) := by decide +kernel
theorem ddM_readScript_51 : decode cM_readScript 51 = .ok (.iaload, 1) := by decide +kernel
theorem ddM_readScript_52 : decode cM_readScript 52 = .ok (.iconst 1, 1) := by decide +kernel
theorem ddM_readScript_53 : decode cM_readScript 53 = .ok (.iadd, 1) := by decide +kernel
theorem ddM_readScript_54 : decode cM_readScript 54 = .ok (.iastore, 1) := by decide +kernel
theorem ddM_readScript_55 : decode cM_readScript 55 = .ok (.aload_n 0, 1) := by decide +kernel
theorem ddM_readScript_56 : decode cM_readScript 56 = .ok (.getfield 86, 3) := by decide +kernel
theorem ddM_readScript_59 : decode cM_readScript 59 = .ok (.iconst (-1), 1) := by decide +kernel
theorem ddM_readScript_60 : decode cM_readScript 60 = .ok (.if_icmp .ne 27, 3) := by decide +kernel
theorem ddM_readScript_63 : decode cM_readScript 63 = .ok (.aload_n 0, 1) := by decide +kernel
theorem ddM_readScript_64 : decode cM_readScript 64 = .ok (.invokevirtual 89, 3) := by decide +kernel
theorem ddM_readScript_67 : decode cM_readScript 67 = .ok (.bipush 59, 2) := by decide +kernel
theorem ddM_readScript_69 : decode cM_readScript 69 = .ok (.if_icmp .ne 18, 3) := by decide +kernel
theorem ddM_readScript_72 : decode cM_readScript 72 = .ok (.aload_n 0, 1) := by decide +kernel
theorem ddM_readScript_73 : decode cM_readScript 73 = .ok (.getfield 28, 3) := by decide +kernel
theorem ddM_readScript_76 : decode cM_readScript 76 = .ok (.iload_n 1, 1) := by decide +kernel
theorem ddM_readScript_77 : decode cM_readScript 77 = .ok (.iaload, 1) := by decide +kernel
theorem ddM_readScript_78 : decode cM_readScript 78 = .ok (.bipush 24, 2) := by decide +kernel
theorem ddM_readScript_80 : decode cM_readScript 80 = .ok (.if_icmp .ge 7, 3) := by decide +kernel
theorem ddM_readScript_83 : decode cM_readScript 83 = .ok (.iconst 1, 1) := by decide +kernel
theorem ddM_readScript_84 : decode cM_readScript 84 = .ok (.goto 4, 3) := by decide +kernel
theorem ddM_readScript_87 : decode cM_readScript 87 = .ok (.iconst 0, 1) := by decide +kernel
theorem ddM_readScript_88 : decode cM_readScript 88 = .ok (.istore_n 2, 1) := by decide +kernel
theorem ddM_readScript_89 : decode cM_readScript 89 = .ok (.aload_n 0, 1) := by decide +kernel
theorem ddM_readScript_90 : decode cM_readScript 90 = .ok (.dup, 1) := by decide +kernel
theorem ddM_readScript_91 : decode cM_readScript 91 = .ok (.getfield 79, 3) := by decide +kernel
theorem ddM_readScript_94 : decode cM_readScript 94 = .ok (.iload_n 2, 1) := by decide +kernel
theorem ddM_readScript_95 : decode cM_readScript 95 = .ok (.ifCond .eq 7, 3) := by decide +kernel
theorem ddM_readScript_98 : decode cM_readScript 98 = .ok (.iconst 1, 1) := by decide +kernel
theorem ddM_readScript_99 : decode cM_readScript 99 = .ok (.goto 4, 3) := by decide +kernel
theorem ddM_readScript_102 : decode cM_readScript 102 = .ok (.iconst 0, 1) := by decide +kernel
theorem ddM_readScript_103 : decode cM_readScript 103 = .ok (.iadd, 1) := by decide +kernel
theorem ddM_readScript_104 : decode cM_readScript 104 = .ok (.putfield 79, 3) := by decide +kernel
theorem ddM_readScript_107 : decode cM_readScript 107 = .ok (.goto (-83), 3) := by decide +kernel
theorem ddM_readScript_110 : decode cM_readScript 110 = .ok (.aload_n 0, 1) := by decide +kernel
theorem ddM_readScript_111 : decode cM_readScript 111 = .ok (.getfield 86, 3) := by decide +kernel
theorem ddM_readScript_114 : decode cM_readScript 114 = .ok (.iconst (-1), 1) := by decide +kernel
theorem ddM_readScript_115 : decode cM_readScript 115 = .ok (.if_icmp .ne 22, 3) := by decide +kernel
theorem ddM_readScript_118 : decode cM_readScript 118 = .ok (.aload_n 0, 1) := by decide +kernel
theorem ddM_readScript_119 : decode cM_readScript 119 = .ok (.invokevirtual 89, 3) := by decide +kernel
theorem ddM_readScript_122 : decode cM_readScript 122 = .ok (.iconst (-1), 1) := by decide +kernel
theorem ddM_readScript_123 : decode cM_readScript 123 = .ok (.if_icmp .ne 10, 3) := by decide +kernel
theorem ddM_readScript_126 : decode cM_readScript 126 = .ok (.aload_n 0, 1) := by decide +kernel
theorem ddM_readScript_127 : decode cM_readScript 127 = .ok (.getfield 131, 3) := by decide +kernel
theorem ddM_readScript_130 : decode cM_readScript 130 = .ok (.ifCond .le 7, 3) := by decide +kernel
theorem ddM_readScript_133 : decode cM_readScript 133 = .ok (.aload_n 0, 1) := by decide +kernel
theorem ddM_readScript_134 : decode cM_readScript 134 = .ok (.invokevirtual 96, 3) := by decide +kernel
theorem ddM_readScript_137 : decode cM_readScript 137 = .ok (.aload_n 0, 1) := by decide +kernel
theorem ddM_readScript_138 : decode cM_readScript 138 = .ok (.getfield 86, 3) := by decide +kernel
theorem ddM_readScript_141 : decode cM_readScript 141 = .ok (.ireturn, 1) := by decide +kernel
set_option maxHeartbeats 2000000 in
theorem zBM_readScript_137 {G : GXM} {X : CxM} (hG : GokM G) (C : CoM G X cM_readScript "HomeFreedModel") (N : mLM X = 3) {d : Nat} (hD : dpM X = d) (hd : 4 ≤ d)  {q : Int32 × Mem} (E : EnM G X (some .int) (some (.int q.1)) q.2 0 0) {v0 : Nat} {M : Mem} (h : BM_readScript_137 v0 M = some q) : ZM G X 137 [(0, .ref v0)] [] M 0 0 := by
  unfold BM_readScript_137 at h
  refine zz_aload_n C 0 ddM_readScript_137 rfl rfl ?_
  obtain ⟨h1, h⟩ := gdN h
  refine zz_geti C ddM_readScript_138 fl_M_86 rfl h1 ?_
  obtain rfl := Option.some.inj h
  exact zz_iret C E ddM_readScript_141
set_option maxHeartbeats 2000000 in
theorem zBM_readScript_133 {G : GXM} {X : CxM} (hG : GokM G) (C : CoM G X cM_readScript "HomeFreedModel") (N : mLM X = 3) {d : Nat} (hD : dpM X = d) (hd : 4 ≤ d)  {q : Int32 × Mem} (E : EnM G X (some .int) (some (.int q.1)) q.2 0 0) {v0 : Nat} {M : Mem} (h : BM_readScript_133 v0 M = some q) : ZM G X 133 [(0, .ref v0)] [] M 0 0 := by
  unfold BM_readScript_133 at h
  refine zz_aload_n C 0 ddM_readScript_133 rfl rfl ?_
  obtain ⟨h2, h⟩ := gdN h
  obtain ⟨q1, hq1, h⟩ := bindN h
  refine zz_callV0 (As := []) C ddM_readScript_134 wd_1331 my_M_bad mv_M_bad ⟨_, rfl, rfl⟩ (xM_bad hG (d - 1) (by omega) hq1) (by omega) h2 rfl rfl (Nat.le_of_ble_eq_true rfl) ?_
  exact zBM_readScript_137 hG C N hD hd E h
set_option maxHeartbeats 2000000 in
theorem zBM_readScript_103 {G : GXM} {X : CxM} (hG : GokM G) (C : CoM G X cM_readScript "HomeFreedModel") (N : mLM X = 3) {d : Nat} (hD : dpM X = d) (hd : 4 ≤ d) {v0 : Nat} {v1 : Int32} {K : Nat → Int32 → Int32 → Mem → Option ((Mem))} {q : (Mem)} (hK : ∀ (v2 : Int32) (M : Mem), K v0 v1 v2 M = some q → ZM G X 24 [(0, .ref v0), (1, .int v1), (2, .int v2)] [] M 0 0) (hx0 : ∀ y : Mem, q = y → ZM G X 110 [(0, .ref v0)] [] y 0 0) {v2 : Int32} {w0 : Nat} {w1 : Int32} {w2 : Int32} {M : Mem} (h : BM_readScript_103 K v0 v1 v2 w0 w1 w2 M = some q) : ZM G X 103 [(0, .ref v0), (1, .int v1), (2, .int v2)] [.int w2, .int w1, .ref w0] M 0 0 := by
  unfold BM_readScript_103 at h
  refine zz_iadd C ddM_readScript_103 ?_
  obtain ⟨h1, h⟩ := gdN h
  refine zz_puti C ddM_readScript_104 fl_M_79 rfl rfl rfl h1 ?_
  refine zz_goto (tgt := 24) C ddM_readScript_107 rfl ?_
  exact hK _ _ h
set_option maxHeartbeats 2000000 in
theorem zBM_readScript_88 {G : GXM} {X : CxM} (hG : GokM G) (C : CoM G X cM_readScript "HomeFreedModel") (N : mLM X = 3) {d : Nat} (hD : dpM X = d) (hd : 4 ≤ d) {v0 : Nat} {v1 : Int32} {K : Nat → Int32 → Int32 → Mem → Option ((Mem))} {q : (Mem)} (hK : ∀ (v2 : Int32) (M : Mem), K v0 v1 v2 M = some q → ZM G X 24 [(0, .ref v0), (1, .int v1), (2, .int v2)] [] M 0 0) (hx0 : ∀ y : Mem, q = y → ZM G X 110 [(0, .ref v0)] [] y 0 0) {w0 : Int32} {M : Mem} (h : BM_readScript_88 K v0 v1 w0 M = some q) : ZM G X 88 [(0, .ref v0), (1, .int v1)] [.int w0] M 0 0 := by
  unfold BM_readScript_88 at h
  refine zz_istore_n (L1 := [(2, .int w0), (0, .ref v0), (1, .int v1)]) C ddM_readScript_88 rfl N (by decide) rfl ?_
  refine zz_aload_n C 1 ddM_readScript_89 rfl rfl ?_
  refine zz_dup C ddM_readScript_90 rfl ?_
  obtain ⟨h1, h⟩ := gdN h
  refine zz_geti C ddM_readScript_91 fl_M_79 rfl h1 ?_
  refine zz_iload_n C 0 ddM_readScript_94 rfl rfl ?_
  refine zz_if_eq (tgt := 102) C ddM_readScript_95 rfl (fun hc => ?_) (fun hc => ?_)
  · replace h := iteT h hc
    refine zz_iconst (v := 0) C ddM_readScript_102 (by decide) ?_
    refine zz_loc (L1 := [(0, .ref v0), (1, .int v1), (2, .int w0)]) [1, 2, 0] rfl ?_
    exact zBM_readScript_103 hG C N hD hd hK hx0 h
  · replace h := iteF h hc
    refine zz_iconst (v := 1) C ddM_readScript_98 (by decide) ?_
    refine zz_goto (tgt := 103) C ddM_readScript_99 rfl ?_
    refine zz_loc (L1 := [(0, .ref v0), (1, .int v1), (2, .int w0)]) [1, 2, 0] rfl ?_
    exact zBM_readScript_103 hG C N hD hd hK hx0 h
set_option maxHeartbeats 2000000 in
theorem zBM_readScript_87 {G : GXM} {X : CxM} (hG : GokM G) (C : CoM G X cM_readScript "HomeFreedModel") (N : mLM X = 3) {d : Nat} (hD : dpM X = d) (hd : 4 ≤ d) {v0 : Nat} {v1 : Int32} {K : Nat → Int32 → Int32 → Mem → Option ((Mem))} {q : (Mem)} (hK : ∀ (v2 : Int32) (M : Mem), K v0 v1 v2 M = some q → ZM G X 24 [(0, .ref v0), (1, .int v1), (2, .int v2)] [] M 0 0) (hx0 : ∀ y : Mem, q = y → ZM G X 110 [(0, .ref v0)] [] y 0 0) {M : Mem} (h : BM_readScript_87 K v0 v1 M = some q) : ZM G X 87 [(0, .ref v0), (1, .int v1)] [] M 0 0 := by
  unfold BM_readScript_87 at h
  refine zz_iconst (v := 0) C ddM_readScript_87 (by decide) ?_
  exact zBM_readScript_88 hG C N hD hd hK hx0 h
set_option maxHeartbeats 2000000 in
theorem zBM_readScript_24 {G : GXM} {X : CxM} (hG : GokM G) (C : CoM G X cM_readScript "HomeFreedModel") (N : mLM X = 3) {d : Nat} (hD : dpM X = d) (hd : 4 ≤ d) {v0 : Nat} {v1 : Int32} {K : Nat → Int32 → Int32 → Mem → Option ((Mem))} {q : (Mem)} (hK : ∀ (v2 : Int32) (M : Mem), K v0 v1 v2 M = some q → ZM G X 24 [(0, .ref v0), (1, .int v1), (2, .int v2)] [] M 0 0) (hx0 : ∀ y : Mem, q = y → ZM G X 110 [(0, .ref v0)] [] y 0 0) {v2 : Int32} {M : Mem} (h : BM_readScript_24 K v0 v1 v2 M = some q) : ZM G X 24 [(0, .ref v0), (1, .int v1), (2, .int v2)] [] M 0 0 := by
  unfold BM_readScript_24 at h
  refine zz_iload_n C 2 ddM_readScript_24 rfl rfl ?_
  refine zz_if_eq (tgt := 110) C ddM_readScript_25 rfl (fun hc => ?_) (fun hc => ?_)
  · replace h := iteT h hc
    refine zz_loc (L1 := [(0, .ref v0)]) [0] rfl ?_
    exact hx0 _ (Option.some.inj h).symm
  · replace h := iteF h hc
    refine zz_aload_n C 0 ddM_readScript_28 rfl rfl ?_
    refine zz_iconst (v := 3) C ddM_readScript_29 (by decide) ?_
    refine zz_bipush (v := 24) C ddM_readScript_30 (by decide) ?_
    refine zz_iload_n C 1 ddM_readScript_32 rfl rfl ?_
    refine zz_imul C ddM_readScript_33 ?_
    refine zz_aload_n C 0 ddM_readScript_34 rfl rfl ?_
    obtain ⟨h1, h⟩ := gdN h
    obtain ⟨h2, h⟩ := gdN h
    refine zz_getr C ddM_readScript_35 fl_M_28 rfl h1 (of_decide_eq_true h2) ?_
    refine zz_iload_n C 1 ddM_readScript_38 rfl rfl ?_
    obtain ⟨h3, h⟩ := gdN h
    refine zz_iaload C ddM_readScript_39 h3 ?_
    refine zz_iadd C ddM_readScript_40 ?_
    refine zz_imul C ddM_readScript_41 ?_
    obtain ⟨q4, hq4, h⟩ := bindN h
    refine zz_callV0 (As := [.int (3 * ((24 * v1) + (giM M (grM M v0 12) (Int32.toNatClampNeg v1))))]) C ddM_readScript_42 wd_1343 my_M_readStep mv_M_readStep ⟨_, rfl, rfl⟩ (xM_readStep hG (d - 1) (by omega) hq4) (by omega) h1 rfl rfl (Nat.le_of_ble_eq_true rfl) ?_
    refine zz_aload_n C 0 ddM_readScript_45 rfl rfl ?_
    obtain ⟨h5, h⟩ := gdN h
    obtain ⟨h6, h⟩ := gdN h
    refine zz_getr C ddM_readScript_46 fl_M_28 rfl h5 (of_decide_eq_true h6) ?_
    refine zz_iload_n C 1 ddM_readScript_49 rfl rfl ?_
    refine zz_dup2 C ddM_readScript_50 rfl rfl ?_
    obtain ⟨h7, h⟩ := gdN h
    refine zz_iaload C ddM_readScript_51 h7 ?_
    refine zz_iconst (v := 1) C ddM_readScript_52 (by decide) ?_
    refine zz_iadd C ddM_readScript_53 ?_
    obtain ⟨h8, h⟩ := gdN h
    refine zz_iastore C ddM_readScript_54 h8 ?_
    refine zz_aload_n C 0 ddM_readScript_55 rfl rfl ?_
    refine zz_geti C ddM_readScript_56 fl_M_86 rfl h5 ?_
    refine zz_iconst (v := (-1)) C ddM_readScript_59 (by decide) ?_
    refine zz_icmp_ne (tgt := 87) C ddM_readScript_60 rfl (fun hc => ?_) (fun hc => ?_)
    · replace h := iteF h hc
      refine zz_loc (L1 := [(0, .ref v0), (1, .int v1)]) [0, 1] rfl ?_
      exact zBM_readScript_87 hG C N hD hd hK hx0 h
    · replace h := iteT h hc
      refine zz_aload_n C 0 ddM_readScript_63 rfl rfl ?_
      obtain ⟨q9, hq9, h⟩ := bindN h
      refine zz_callV0 (As := []) C ddM_readScript_64 wd_1303 my_M_ahead mv_M_ahead ⟨_, rfl, rfl⟩ (xM_ahead hG (d - 1) (by omega) hq9) (by omega) h5 rfl rfl (Nat.le_of_ble_eq_true rfl) ?_
      refine zz_bipush (v := 59) C ddM_readScript_67 (by decide) ?_
      refine zz_icmp_ne (tgt := 87) C ddM_readScript_69 rfl (fun hc => ?_) (fun hc => ?_)
      · replace h := iteF h hc
        refine zz_loc (L1 := [(0, .ref v0), (1, .int v1)]) [0, 1] rfl ?_
        exact zBM_readScript_87 hG C N hD hd hK hx0 h
      · replace h := iteT h hc
        refine zz_aload_n C 0 ddM_readScript_72 rfl rfl ?_
        obtain ⟨h10, h⟩ := gdN h
        obtain ⟨h11, h⟩ := gdN h
        refine zz_getr C ddM_readScript_73 fl_M_28 rfl h10 (of_decide_eq_true h11) ?_
        refine zz_iload_n C 1 ddM_readScript_76 rfl rfl ?_
        obtain ⟨h12, h⟩ := gdN h
        refine zz_iaload C ddM_readScript_77 h12 ?_
        refine zz_bipush (v := 24) C ddM_readScript_78 (by decide) ?_
        refine zz_icmp_ge (tgt := 87) C ddM_readScript_80 rfl (fun hc => ?_) (fun hc => ?_)
        · replace h := iteT h hc
          refine zz_loc (L1 := [(0, .ref v0), (1, .int v1)]) [0, 1] rfl ?_
          exact zBM_readScript_87 hG C N hD hd hK hx0 h
        · replace h := iteF h hc
          refine zz_iconst (v := 1) C ddM_readScript_83 (by decide) ?_
          refine zz_goto (tgt := 88) C ddM_readScript_84 rfl ?_
          refine zz_loc (L1 := [(0, .ref v0), (1, .int v1)]) [0, 1] rfl ?_
          exact zBM_readScript_88 hG C N hD hd hK hx0 h
set_option maxHeartbeats 2000000 in
theorem zLM_readScript_24 {G : GXM} {X : CxM} (hG : GokM G) (C : CoM G X cM_readScript "HomeFreedModel") (N : mLM X = 3) {d : Nat} (hD : dpM X = d) (hd : 4 ≤ d) {v0 : Nat} {v1 : Int32} {q : (Mem)} : ∀ (f : Nat) (v2 : Int32) (M : Mem), LM_readScript_24 f v0 v1 v2 M = some q → (hx0 : ∀ y : Mem, q = y → ZM G X 110 [(0, .ref v0)] [] y 0 0) → ZM G X 24 [(0, .ref v0), (1, .int v1), (2, .int v2)] [] M 0 0 := by
  intro f
  induction f with
  | zero => intro v2 M h; cases h
  | succ f ih =>
    intro v2 M h hx0
    exact zBM_readScript_24 hG C N hD hd (K := LM_readScript_24 f) (q := q) (fun v2 M h => ih v2 M h hx0) hx0 h
set_option maxHeartbeats 2000000 in
theorem xM_readScript {G : GXM} {l : Launch} (hG : GokM G) (d : Nat) (hd : 4 ≤ d) {v0 : Nat} {v1 : Int32} {M : Mem} {q : Int32 × Mem} (h : fM_readScript v0 v1 M = some q) : ExM G l d 0 0 yM_readScript cM_readScript 3 (some .int) [.ref v0, .int v1] M (some (.int q.1)) q.2 := by
  refine ex_of hG (by decide) (Nat.le_of_ble_eq_true rfl) ?_
  intro X hl C E N hD hn
  show ZM G X 0 [(2, .int v2), (0, .ref v0), (1, .int v1)] [] M 0 0
  unfold fM_readScript at h
  refine zz_aload_n C 0 ddM_readScript_0 rfl rfl ?_
  refine zz_iconst (v := 0) C ddM_readScript_1 (by decide) ?_
  obtain ⟨h1, h⟩ := gdN h
  refine zz_puti C ddM_readScript_2 fl_M_79 rfl rfl rfl h1 ?_
  refine zz_aload_n C 0 ddM_readScript_5 rfl rfl ?_
  refine zz_iconst (v := (-1)) C ddM_readScript_6 (by decide) ?_
  refine zz_puti C ddM_readScript_7 fl_M_86 rfl rfl rfl h1 ?_
  refine zz_aload_n C 0 ddM_readScript_10 rfl rfl ?_
  obtain ⟨h2, h⟩ := gdN h
  refine zz_getr C ddM_readScript_11 fl_M_28 rfl h1 (of_decide_eq_true h2) ?_
  refine zz_iload_n C 1 ddM_readScript_14 rfl rfl ?_
  refine zz_iconst (v := 0) C ddM_readScript_15 (by decide) ?_
  obtain ⟨h3, h⟩ := gdN h
  refine zz_iastore C ddM_readScript_16 h3 ?_
  refine zz_aload_n C 0 ddM_readScript_17 rfl rfl ?_
  refine zz_iconst (v := 0) C ddM_readScript_18 (by decide) ?_
  refine zz_puti C ddM_readScript_19 fl_M_131 rfl rfl rfl h1 ?_
  refine zz_iconst (v := 1) C ddM_readScript_22 (by decide) ?_
  refine zz_istore_n (L1 := [(2, .int 1), (0, .ref v0), (1, .int v1)]) C ddM_readScript_23 rfl N (by decide) rfl ?_
  refine zz_loc (L1 := [(0, .ref v0), (1, .int v1), (2, .int 1)]) [1, 2, 0] rfl ?_
  obtain ⟨q4, hq4, h⟩ := bindN h
  refine zLM_readScript_24 hG C N hD hd 1000000 _ _ hq4 ?_
  · intro y5 eq4; subst eq4
    refine zz_aload_n C 0 ddM_readScript_110 rfl rfl ?_
    obtain ⟨h6, h⟩ := gdN h
    refine zz_geti C ddM_readScript_111 fl_M_86 rfl h6 ?_
    refine zz_iconst (v := (-1)) C ddM_readScript_114 (by decide) ?_
    refine zz_icmp_ne (tgt := 137) C ddM_readScript_115 rfl (fun hc => ?_) (fun hc => ?_)
    · replace h := iteF h hc
      exact zBM_readScript_137 hG C N hD hd E h
    · replace h := iteT h hc
      refine zz_aload_n C 0 ddM_readScript_118 rfl rfl ?_
      obtain ⟨q7, hq7, h⟩ := bindN h
      refine zz_callV0 (As := []) C ddM_readScript_119 wd_1303 my_M_ahead mv_M_ahead ⟨_, rfl, rfl⟩ (xM_ahead hG (d - 1) (by omega) hq7) (by omega) h6 rfl rfl (Nat.le_of_ble_eq_true rfl) ?_
      refine zz_iconst (v := (-1)) C ddM_readScript_122 (by decide) ?_
      refine zz_icmp_ne (tgt := 133) C ddM_readScript_123 rfl (fun hc => ?_) (fun hc => ?_)
      · replace h := iteF h hc
        exact zBM_readScript_133 hG C N hD hd E h
      · replace h := iteT h hc
        refine zz_aload_n C 0 ddM_readScript_126 rfl rfl ?_
        obtain ⟨h8, h⟩ := gdN h
        refine zz_geti C ddM_readScript_127 fl_M_131 rfl h8 ?_
        refine zz_if_le (tgt := 137) C ddM_readScript_130 rfl (fun hc => ?_) (fun hc => ?_)
        · replace h := iteT h hc
          exact zBM_readScript_137 hG C N hD hd E h
        · replace h := iteF h hc
          exact zBM_readScript_133 hG C N hD hd E h
theorem ddM_fault_0 : decode cM_fault 0 = .ok (.iload_n 1, 1) := by decide +kernel
theorem ddM_fault_1 : decode cM_fault 1 = .ok (.ifCond .ne 10, 3) := by decide +kernel
theorem ddM_fault_4 : decode cM_fault 4 = .ok (.aload_n 0, 1) := by decide +kernel
theorem ddM_fault_5 : decode cM_fault 5 = .ok (.invokevirtual 138, 3) := by decide +kernel
theorem ddM_fault_8 : decode cM_fault 8 = .ok (.goto 18, 3) := by decide +kernel
theorem ddM_fault_11 : decode cM_fault 11 = .ok (.iload_n 1, 1) := by decide +kernel
theorem ddM_fault_12 : decode cM_fault 12 = .ok (.iconst 1, 1) := by decide +kernel
theorem ddM_fault_13 : decode cM_fault 13 = .ok (.if_icmp .ne 11, 3) := by decide +kernel
theorem ddM_fault_16 : decode cM_fault 16 = .ok (.aload_n 0, 1) := by decide +kernel
theorem ddM_fault_17 : decode cM_fault 17 = .ok (.iconst 4, 1) := by decide +kernel
theorem ddM_fault_18 : decode cM_fault 18 = .ok (.invokevirtual 141, 3) := by decide +kernel
theorem ddM_fault_21 : decode cM_fault 21 = .ok (.goto 5, 3) := by decide +kernel
theorem ddM_fault_24 : decode cM_fault 24 = .ok (.bipush (-2), 2) := by decide +kernel
theorem ddM_fault_26 : decode cM_fault 26 = .ok (.ireturn, 1) := by decide +kernel
set_option maxHeartbeats 2000000 in
theorem zBM_fault_26 {G : GXM} {X : CxM} (hG : GokM G) (C : CoM G X cM_fault "HomeFreedModel") (N : mLM X = 2) {d : Nat} (hD : dpM X = d) (hd : 5 ≤ d)  {q : Int32 × Mem} (E : EnM G X (some .int) (some (.int q.1)) q.2 0 0) {w0 : Int32} {M : Mem} (h : BM_fault_26 w0 M = some q) : ZM G X 26 [] [.int w0] M 0 0 := by
  unfold BM_fault_26 at h
  obtain rfl := Option.some.inj h
  exact zz_iret C E ddM_fault_26
set_option maxHeartbeats 2000000 in
theorem xM_fault {G : GXM} {l : Launch} (hG : GokM G) (d : Nat) (hd : 5 ≤ d) {v0 : Nat} {v1 : Int32} {M : Mem} {q : Int32 × Mem} (h : fM_fault v0 v1 M = some q) : ExM G l d 0 0 yM_fault cM_fault 2 (some .int) [.ref v0, .int v1] M (some (.int q.1)) q.2 := by
  refine ex_of hG (by decide) (Nat.le_of_ble_eq_true rfl) ?_
  intro X hl C E N hD hn
  show ZM G X 0 [(0, .ref v0), (1, .int v1)] [] M 0 0
  unfold fM_fault at h
  refine zz_iload_n C 1 ddM_fault_0 rfl rfl ?_
  refine zz_if_ne (tgt := 11) C ddM_fault_1 rfl (fun hc => ?_) (fun hc => ?_)
  · replace h := iteF h hc
    refine zz_iload_n C 1 ddM_fault_11 rfl rfl ?_
    refine zz_iconst (v := 1) C ddM_fault_12 (by decide) ?_
    refine zz_icmp_ne (tgt := 24) C ddM_fault_13 rfl (fun hc => ?_) (fun hc => ?_)
    · replace h := iteF h hc
      refine zz_bipush (v := (-2)) C ddM_fault_24 (by decide) ?_
      refine zz_loc (L1 := []) [] rfl ?_
      exact zBM_fault_26 hG C N hD hd E h
    · replace h := iteT h hc
      refine zz_aload_n C 0 ddM_fault_16 rfl rfl ?_
      refine zz_iconst (v := 4) C ddM_fault_17 (by decide) ?_
      obtain ⟨h2, h⟩ := gdN h
      obtain ⟨q1, hq1, h⟩ := bindN h
      refine zz_callV0 (As := [.int 4]) C ddM_fault_18 wd_1339 my_M_readScript mv_M_readScript ⟨_, rfl, rfl⟩ (xM_readScript hG (d - 1) (by omega) hq1) (by omega) h2 rfl rfl (Nat.le_of_ble_eq_true rfl) ?_
      refine zz_goto (tgt := 26) C ddM_fault_21 rfl ?_
      refine zz_loc (L1 := []) [] rfl ?_
      exact zBM_fault_26 hG C N hD hd E h
  · replace h := iteT h hc
    refine zz_aload_n C 0 ddM_fault_4 rfl rfl ?_
    obtain ⟨h4, h⟩ := gdN h
    obtain ⟨q3, hq3, h⟩ := bindN h
    refine zz_callV0 (As := []) C ddM_fault_5 wd_1296 my_M_readArena mv_M_readArena ⟨_, rfl, rfl⟩ (xM_readArena hG (d - 1) (by omega) hq3) (by omega) h4 rfl rfl (Nat.le_of_ble_eq_true rfl) ?_
    refine zz_goto (tgt := 26) C ddM_fault_8 rfl ?_
    refine zz_loc (L1 := []) [] rfl ?_
    exact zBM_fault_26 hG C N hD hd E h
theorem ddM_takeArena_0 : decode cM_takeArena 0 = .ok (.aload_n 0, 1) := by decide +kernel
theorem ddM_takeArena_1 : decode cM_takeArena 1 = .ok (.aload_n 0, 1) := by decide +kernel
theorem ddM_takeArena_2 : decode cM_takeArena 2 = .ok (.getfield 116, 3) := by decide +kernel
theorem ddM_takeArena_5 : decode cM_takeArena 5 = .ok (.putfield 144, 3) := by decide +kernel
theorem ddM_takeArena_8 : decode cM_takeArena 8 = .ok (.iconst 0, 1) := by decide +kernel
theorem ddM_takeArena_9 : decode cM_takeArena 9 = .ok (.istore_n 1, 1) := by decide +kernel
theorem ddM_takeArena_10 : decode cM_takeArena 10 = .ok (.iload_n 1, 1) := by decide +kernel
theorem ddM_takeArena_11 : decode cM_takeArena 11 = .ok (.iconst 5, 1) := by decide +kernel
theorem ddM_takeArena_12 : decode cM_takeArena 12 = .ok (.if_icmp .ge 21, 3) := by decide +kernel
theorem ddM_takeArena_15 : decode cM_takeArena 15 = .ok (.aload_n 0, 1) := by decide +kernel
theorem ddM_takeArena_16 : decode cM_takeArena 16 = .ok (.getfield 19, 3) := by decide +kernel
theorem ddM_takeArena_19 : decode cM_takeArena 19 = .ok (.iload_n 1, 1) := by decide +kernel
theorem ddM_takeArena_20 : decode cM_takeArena 20 = .ok (.aload_n 0, 1) := by decide +kernel
theorem ddM_takeArena_21 : decode cM_takeArena 21 = .ok (.getfield 13, 3) := by decide +kernel
theorem ddM_takeArena_24 : decode cM_takeArena 24 = .ok (.iload_n 1, 1) := by decide +kernel
theorem ddM_takeArena_25 : decode cM_takeArena 25 = .ok (.iaload, 1) := by decide +kernel
theorem ddM_takeArena_26 : decode cM_takeArena 26 = .ok (.iastore, 1) := by decide +kernel
theorem ddM_takeArena_27 : decode cM_takeArena 27 = .ok (.iinc 1 1, 3) := by decide +kernel
theorem ddM_takeArena_30 : decode cM_takeArena 30 = .ok (.goto (-20), 3) := by decide +kernel
theorem ddM_takeArena_33 : decode cM_takeArena 33 = .ok (.iconst 0, 1) := by decide +kernel
theorem ddM_takeArena_34 : decode cM_takeArena 34 = .ok (.istore_n 1, 1) := by decide +kernel
theorem ddM_takeArena_35 : decode cM_takeArena 35 = .ok (.iload_n 1, 1) := by decide +kernel
theorem ddM_takeArena_36 : decode cM_takeArena 36 = .ok (.bipush 6, 2) := by decide +kernel
theorem ddM_takeArena_38 : decode cM_takeArena 38 = .ok (.if_icmp .ge 21, 3) := by decide +kernel
theorem ddM_takeArena_41 : decode cM_takeArena 41 = .ok (.aload_n 0, 1) := by decide +kernel
theorem ddM_takeArena_42 : decode cM_takeArena 42 = .ok (.getfield 22, 3) := by decide +kernel
theorem ddM_takeArena_45 : decode cM_takeArena 45 = .ok (.iload_n 1, 1) := by decide +kernel
theorem ddM_takeArena_46 : decode cM_takeArena 46 = .ok (.aload_n 0, 1) := by decide +kernel
theorem ddM_takeArena_47 : decode cM_takeArena 47 = .ok (.getfield 16, 3) := by decide +kernel
theorem ddM_takeArena_50 : decode cM_takeArena 50 = .ok (.iload_n 1, 1) := by decide +kernel
theorem ddM_takeArena_51 : decode cM_takeArena 51 = .ok (.iaload, 1) := by decide +kernel
theorem ddM_takeArena_52 : decode cM_takeArena 52 = .ok (.iastore, 1) := by decide +kernel
theorem ddM_takeArena_53 : decode cM_takeArena 53 = .ok (.iinc 1 1, 3) := by decide +kernel
theorem ddM_takeArena_56 : decode cM_takeArena 56 = .ok (.goto (-21), 3) := by decide +kernel
theorem ddM_takeArena_59 : decode cM_takeArena 59 = .ok (.iconst 0, 1) := by decide +kernel
theorem ddM_takeArena_60 : decode cM_takeArena 60 = .ok (.istore_n 1, 1) := by decide +kernel
theorem ddM_takeArena_61 : decode cM_takeArena 61 = .ok (.iload_n 1, 1) := by decide +kernel
theorem ddM_takeArena_62 : decode cM_takeArena 62 = .ok (.sipush 3893, 3) := by decide +kernel
theorem ddM_takeArena_65 : decode cM_takeArena 65 = .ok (.if_icmp .ge 16, 3) := by decide +kernel
theorem ddM_takeArena_68 : decode cM_takeArena 68 = .ok (.aload_n 0, 1) := by decide +kernel
theorem ddM_takeArena_69 : decode cM_takeArena 69 = .ok (.getfield 31, 3) := by decide +kernel
theorem ddM_takeArena_72 : decode cM_takeArena 72 = .ok (.iload_n 1, 1) := by decide +kernel
theorem ddM_takeArena_73 : decode cM_takeArena 73 = .ok (.iconst 0, 1) := by decide +kernel
theorem ddM_takeArena_74 : decode cM_takeArena 74 = .ok (.iastore, 1) := by decide +kernel
theorem ddM_takeArena_75 : decode cM_takeArena 75 = .ok (.iinc 1 1, 3) := by decide +kernel
theorem ddM_takeArena_78 : decode cM_takeArena 78 = .ok (.goto (-17), 3) := by decide +kernel
theorem ddM_takeArena_81 : decode cM_takeArena 81 = .ok (.iconst 0, 1) := by decide +kernel
theorem ddM_takeArena_82 : decode cM_takeArena 82 = .ok (.istore_n 1, 1) := by decide +kernel
theorem ddM_takeArena_83 : decode cM_takeArena 83 = .ok (.iload_n 1, 1) := by decide +kernel
theorem ddM_takeArena_84 : decode cM_takeArena 84 = .ok (.aload_n 0, 1) := by decide +kernel
theorem ddM_takeArena_85 : decode cM_takeArena 85 = .ok (.getfield 19, 3) := by decide +kernel
theorem ddM_takeArena_88 : decode cM_takeArena 88 = .ok (.iconst 0, 1) := by decide +kernel
theorem ddM_takeArena_89 : decode cM_takeArena 89 = .ok (.iaload, 1) := by decide +kernel
theorem ddM_takeArena_90 : decode cM_takeArena 90 = .ok (.if_icmp .ge 20, 3) := by decide +kernel
theorem ddM_takeArena_93 : decode cM_takeArena 93 = .ok (.aload_n 0, 1) := by decide +kernel
theorem ddM_takeArena_94 : decode cM_takeArena 94 = .ok (.getfield 31, 3) := by decide +kernel
theorem ddM_takeArena_97 : decode cM_takeArena 97 = .ok (.sipush 3704, 3) := by decide +kernel
theorem ddM_takeArena_100 : decode cM_takeArena 100 = .ok (.iload_n 1, 1) := by decide +kernel
theorem ddM_takeArena_101 : decode cM_takeArena 101 = .ok (.iadd, 1) := by decide +kernel
theorem ddM_takeArena_102 : decode cM_takeArena 102 = .ok (.iconst 1, 1) := by decide +kernel
theorem ddM_takeArena_103 : decode cM_takeArena 103 = .ok (.iastore, 1) := by decide +kernel
theorem ddM_takeArena_104 : decode cM_takeArena 104 = .ok (.iinc 1 1, 3) := by decide +kernel
theorem ddM_takeArena_107 : decode cM_takeArena 107 = .ok (.goto (-24), 3) := by decide +kernel
theorem ddM_takeArena_110 : decode cM_takeArena 110 = .ok (.aload_n 0, 1) := by decide +kernel
theorem ddM_takeArena_111 : decode cM_takeArena 111 = .ok (.iconst 0, 1) := by decide +kernel
theorem ddM_takeArena_112 : decode cM_takeArena 112 = .ok (.putfield 147, 3) := by decide +kernel
theorem ddM_takeArena_115 : decode cM_takeArena 115 = .ok (.aload_n 0, 1) := by decide +kernel
theorem ddM_takeArena_116 : decode cM_takeArena 116 = .ok (.iconst 0, 1) := by decide +kernel
theorem ddM_takeArena_117 : decode cM_takeArena 117 = .ok (.putfield 150, 3) := by decide +kernel
theorem ddM_takeArena_120 : decode cM_takeArena 120 = .ok (.aload_n 0, 1) := by decide +kernel
theorem ddM_takeArena_121 : decode cM_takeArena 121 = .ok (.getfield 144, 3) := by decide +kernel
theorem ddM_takeArena_124 : decode cM_takeArena 124 = .ok (.ireturn, 1) := by decide +kernel
set_option maxHeartbeats 2000000 in
theorem zBM_takeArena_83 {G : GXM} {X : CxM} (hG : GokM G) (C : CoM G X cM_takeArena "HomeFreedModel") (N : mLM X = 2) {d : Nat} (hD : dpM X = d) (hd : 0 ≤ d) {v0 : Nat} {K : Nat → Int32 → Mem → Option ((Int32 × Mem))} {q : (Int32 × Mem)} (hK : ∀ (v1 : Int32) (M : Mem), K v0 v1 M = some q → ZM G X 83 [(0, .ref v0), (1, .int v1)] [] M 0 0) (hr : ∀ r : Int32 × Mem, q =  r → EnM G X (some .int) (some (.int r.1)) r.2 0 0) {v1 : Int32} {M : Mem} (h : BM_takeArena_83 K v0 v1 M = some q) : ZM G X 83 [(0, .ref v0), (1, .int v1)] [] M 0 0 := by
  unfold BM_takeArena_83 at h
  refine zz_iload_n C 1 ddM_takeArena_83 rfl rfl ?_
  refine zz_aload_n C 0 ddM_takeArena_84 rfl rfl ?_
  obtain ⟨h1, h⟩ := gdN h
  obtain ⟨h2, h⟩ := gdN h
  refine zz_getr C ddM_takeArena_85 fl_M_19 rfl h1 (of_decide_eq_true h2) ?_
  refine zz_iconst (v := 0) C ddM_takeArena_88 (by decide) ?_
  obtain ⟨h3, h⟩ := gdN h
  refine zz_iaload C ddM_takeArena_89 h3 ?_
  refine zz_icmp_ge (tgt := 110) C ddM_takeArena_90 rfl (fun hc => ?_) (fun hc => ?_)
  · replace h := iteT h hc
    refine zz_aload_n C 0 ddM_takeArena_110 rfl rfl ?_
    refine zz_iconst (v := 0) C ddM_takeArena_111 (by decide) ?_
    refine zz_puti C ddM_takeArena_112 fl_M_147 rfl rfl rfl h1 ?_
    refine zz_aload_n C 0 ddM_takeArena_115 rfl rfl ?_
    refine zz_iconst (v := 0) C ddM_takeArena_116 (by decide) ?_
    refine zz_puti C ddM_takeArena_117 fl_M_150 rfl rfl rfl h1 ?_
    refine zz_aload_n C 0 ddM_takeArena_120 rfl rfl ?_
    refine zz_geti C ddM_takeArena_121 fl_M_144 rfl h1 ?_
    exact zz_iret C (hr _ (Option.some.inj h).symm) ddM_takeArena_124
  · replace h := iteF h hc
    refine zz_aload_n C 0 ddM_takeArena_93 rfl rfl ?_
    obtain ⟨h4, h⟩ := gdN h
    refine zz_getr C ddM_takeArena_94 fl_M_31 rfl h1 (of_decide_eq_true h4) ?_
    refine zz_sipush (v := 3704) C ddM_takeArena_97 (by decide) ?_
    refine zz_iload_n C 1 ddM_takeArena_100 rfl rfl ?_
    refine zz_iadd C ddM_takeArena_101 ?_
    refine zz_iconst (v := 1) C ddM_takeArena_102 (by decide) ?_
    obtain ⟨h5, h⟩ := gdN h
    refine zz_iastore C ddM_takeArena_103 h5 ?_
    refine zz_iinc (v := v1 + 1) (L1 := [(1, .int (v1 + 1)), (0, .ref v0)]) C 1 ddM_takeArena_104 rfl rfl N (by decide) rfl ?_
    refine zz_goto (tgt := 83) C ddM_takeArena_107 rfl ?_
    refine zz_loc (L1 := [(0, .ref v0), (1, .int (v1 + 1))]) [1, 0] rfl ?_
    exact hK _ _ h
set_option maxHeartbeats 2000000 in
theorem zLM_takeArena_83 {G : GXM} {X : CxM} (hG : GokM G) (C : CoM G X cM_takeArena "HomeFreedModel") (N : mLM X = 2) {d : Nat} (hD : dpM X = d) (hd : 0 ≤ d) {v0 : Nat} {q : (Int32 × Mem)} : ∀ (f : Nat) (v1 : Int32) (M : Mem), LM_takeArena_83 f v0 v1 M = some q → (hr : ∀ r : Int32 × Mem, q =  r → EnM G X (some .int) (some (.int r.1)) r.2 0 0) → ZM G X 83 [(0, .ref v0), (1, .int v1)] [] M 0 0 := by
  intro f
  induction f with
  | zero => intro v1 M h; cases h
  | succ f ih =>
    intro v1 M h hr
    exact zBM_takeArena_83 hG C N hD hd (K := LM_takeArena_83 f) (q := q) (fun v1 M h => ih v1 M h hr) hr h
set_option maxHeartbeats 2000000 in
theorem zBM_takeArena_61 {G : GXM} {X : CxM} (hG : GokM G) (C : CoM G X cM_takeArena "HomeFreedModel") (N : mLM X = 2) {d : Nat} (hD : dpM X = d) (hd : 0 ≤ d) {v0 : Nat} {K : Nat → Int32 → Mem → Option ((Mem))} {q : (Mem)} (hK : ∀ (v1 : Int32) (M : Mem), K v0 v1 M = some q → ZM G X 61 [(0, .ref v0), (1, .int v1)] [] M 0 0) (hx0 : ∀ y : Mem, q = y → ZM G X 81 [(0, .ref v0)] [] y 0 0) {v1 : Int32} {M : Mem} (h : BM_takeArena_61 K v0 v1 M = some q) : ZM G X 61 [(0, .ref v0), (1, .int v1)] [] M 0 0 := by
  unfold BM_takeArena_61 at h
  refine zz_iload_n C 1 ddM_takeArena_61 rfl rfl ?_
  refine zz_sipush (v := 3893) C ddM_takeArena_62 (by decide) ?_
  refine zz_icmp_ge (tgt := 81) C ddM_takeArena_65 rfl (fun hc => ?_) (fun hc => ?_)
  · replace h := iteT h hc
    refine zz_loc (L1 := [(0, .ref v0)]) [0] rfl ?_
    exact hx0 _ (Option.some.inj h).symm
  · replace h := iteF h hc
    refine zz_aload_n C 0 ddM_takeArena_68 rfl rfl ?_
    obtain ⟨h1, h⟩ := gdN h
    obtain ⟨h2, h⟩ := gdN h
    refine zz_getr C ddM_takeArena_69 fl_M_31 rfl h1 (of_decide_eq_true h2) ?_
    refine zz_iload_n C 1 ddM_takeArena_72 rfl rfl ?_
    refine zz_iconst (v := 0) C ddM_takeArena_73 (by decide) ?_
    obtain ⟨h3, h⟩ := gdN h
    refine zz_iastore C ddM_takeArena_74 h3 ?_
    refine zz_iinc (v := v1 + 1) (L1 := [(1, .int (v1 + 1)), (0, .ref v0)]) C 1 ddM_takeArena_75 rfl rfl N (by decide) rfl ?_
    refine zz_goto (tgt := 61) C ddM_takeArena_78 rfl ?_
    refine zz_loc (L1 := [(0, .ref v0), (1, .int (v1 + 1))]) [1, 0] rfl ?_
    exact hK _ _ h
set_option maxHeartbeats 2000000 in
theorem zLM_takeArena_61 {G : GXM} {X : CxM} (hG : GokM G) (C : CoM G X cM_takeArena "HomeFreedModel") (N : mLM X = 2) {d : Nat} (hD : dpM X = d) (hd : 0 ≤ d) {v0 : Nat} {q : (Mem)} : ∀ (f : Nat) (v1 : Int32) (M : Mem), LM_takeArena_61 f v0 v1 M = some q → (hx0 : ∀ y : Mem, q = y → ZM G X 81 [(0, .ref v0)] [] y 0 0) → ZM G X 61 [(0, .ref v0), (1, .int v1)] [] M 0 0 := by
  intro f
  induction f with
  | zero => intro v1 M h; cases h
  | succ f ih =>
    intro v1 M h hx0
    exact zBM_takeArena_61 hG C N hD hd (K := LM_takeArena_61 f) (q := q) (fun v1 M h => ih v1 M h hx0) hx0 h
set_option maxHeartbeats 2000000 in
theorem zBM_takeArena_35 {G : GXM} {X : CxM} (hG : GokM G) (C : CoM G X cM_takeArena "HomeFreedModel") (N : mLM X = 2) {d : Nat} (hD : dpM X = d) (hd : 0 ≤ d) {v0 : Nat} {K : Nat → Int32 → Mem → Option ((Mem))} {q : (Mem)} (hK : ∀ (v1 : Int32) (M : Mem), K v0 v1 M = some q → ZM G X 35 [(0, .ref v0), (1, .int v1)] [] M 0 0) (hx0 : ∀ y : Mem, q = y → ZM G X 59 [(0, .ref v0)] [] y 0 0) {v1 : Int32} {M : Mem} (h : BM_takeArena_35 K v0 v1 M = some q) : ZM G X 35 [(0, .ref v0), (1, .int v1)] [] M 0 0 := by
  unfold BM_takeArena_35 at h
  refine zz_iload_n C 1 ddM_takeArena_35 rfl rfl ?_
  refine zz_bipush (v := 6) C ddM_takeArena_36 (by decide) ?_
  refine zz_icmp_ge (tgt := 59) C ddM_takeArena_38 rfl (fun hc => ?_) (fun hc => ?_)
  · replace h := iteT h hc
    refine zz_loc (L1 := [(0, .ref v0)]) [0] rfl ?_
    exact hx0 _ (Option.some.inj h).symm
  · replace h := iteF h hc
    refine zz_aload_n C 0 ddM_takeArena_41 rfl rfl ?_
    obtain ⟨h1, h⟩ := gdN h
    obtain ⟨h2, h⟩ := gdN h
    refine zz_getr C ddM_takeArena_42 fl_M_22 rfl h1 (of_decide_eq_true h2) ?_
    refine zz_iload_n C 1 ddM_takeArena_45 rfl rfl ?_
    refine zz_aload_n C 0 ddM_takeArena_46 rfl rfl ?_
    obtain ⟨h3, h⟩ := gdN h
    refine zz_getr C ddM_takeArena_47 fl_M_16 rfl h1 (of_decide_eq_true h3) ?_
    refine zz_iload_n C 1 ddM_takeArena_50 rfl rfl ?_
    obtain ⟨h4, h⟩ := gdN h
    refine zz_iaload C ddM_takeArena_51 h4 ?_
    obtain ⟨h5, h⟩ := gdN h
    refine zz_iastore C ddM_takeArena_52 h5 ?_
    refine zz_iinc (v := v1 + 1) (L1 := [(1, .int (v1 + 1)), (0, .ref v0)]) C 1 ddM_takeArena_53 rfl rfl N (by decide) rfl ?_
    refine zz_goto (tgt := 35) C ddM_takeArena_56 rfl ?_
    refine zz_loc (L1 := [(0, .ref v0), (1, .int (v1 + 1))]) [1, 0] rfl ?_
    exact hK _ _ h
set_option maxHeartbeats 2000000 in
theorem zLM_takeArena_35 {G : GXM} {X : CxM} (hG : GokM G) (C : CoM G X cM_takeArena "HomeFreedModel") (N : mLM X = 2) {d : Nat} (hD : dpM X = d) (hd : 0 ≤ d) {v0 : Nat} {q : (Mem)} : ∀ (f : Nat) (v1 : Int32) (M : Mem), LM_takeArena_35 f v0 v1 M = some q → (hx0 : ∀ y : Mem, q = y → ZM G X 59 [(0, .ref v0)] [] y 0 0) → ZM G X 35 [(0, .ref v0), (1, .int v1)] [] M 0 0 := by
  intro f
  induction f with
  | zero => intro v1 M h; cases h
  | succ f ih =>
    intro v1 M h hx0
    exact zBM_takeArena_35 hG C N hD hd (K := LM_takeArena_35 f) (q := q) (fun v1 M h => ih v1 M h hx0) hx0 h
set_option maxHeartbeats 2000000 in
theorem zBM_takeArena_10 {G : GXM} {X : CxM} (hG : GokM G) (C : CoM G X cM_takeArena "HomeFreedModel") (N : mLM X = 2) {d : Nat} (hD : dpM X = d) (hd : 0 ≤ d) {v0 : Nat} {K : Nat → Int32 → Mem → Option ((Mem))} {q : (Mem)} (hK : ∀ (v1 : Int32) (M : Mem), K v0 v1 M = some q → ZM G X 10 [(0, .ref v0), (1, .int v1)] [] M 0 0) (hx0 : ∀ y : Mem, q = y → ZM G X 33 [(0, .ref v0)] [] y 0 0) {v1 : Int32} {M : Mem} (h : BM_takeArena_10 K v0 v1 M = some q) : ZM G X 10 [(0, .ref v0), (1, .int v1)] [] M 0 0 := by
  unfold BM_takeArena_10 at h
  refine zz_iload_n C 1 ddM_takeArena_10 rfl rfl ?_
  refine zz_iconst (v := 5) C ddM_takeArena_11 (by decide) ?_
  refine zz_icmp_ge (tgt := 33) C ddM_takeArena_12 rfl (fun hc => ?_) (fun hc => ?_)
  · replace h := iteT h hc
    refine zz_loc (L1 := [(0, .ref v0)]) [0] rfl ?_
    exact hx0 _ (Option.some.inj h).symm
  · replace h := iteF h hc
    refine zz_aload_n C 0 ddM_takeArena_15 rfl rfl ?_
    obtain ⟨h1, h⟩ := gdN h
    obtain ⟨h2, h⟩ := gdN h
    refine zz_getr C ddM_takeArena_16 fl_M_19 rfl h1 (of_decide_eq_true h2) ?_
    refine zz_iload_n C 1 ddM_takeArena_19 rfl rfl ?_
    refine zz_aload_n C 0 ddM_takeArena_20 rfl rfl ?_
    obtain ⟨h3, h⟩ := gdN h
    refine zz_getr C ddM_takeArena_21 fl_M_13 rfl h1 (of_decide_eq_true h3) ?_
    refine zz_iload_n C 1 ddM_takeArena_24 rfl rfl ?_
    obtain ⟨h4, h⟩ := gdN h
    refine zz_iaload C ddM_takeArena_25 h4 ?_
    obtain ⟨h5, h⟩ := gdN h
    refine zz_iastore C ddM_takeArena_26 h5 ?_
    refine zz_iinc (v := v1 + 1) (L1 := [(1, .int (v1 + 1)), (0, .ref v0)]) C 1 ddM_takeArena_27 rfl rfl N (by decide) rfl ?_
    refine zz_goto (tgt := 10) C ddM_takeArena_30 rfl ?_
    refine zz_loc (L1 := [(0, .ref v0), (1, .int (v1 + 1))]) [1, 0] rfl ?_
    exact hK _ _ h
set_option maxHeartbeats 2000000 in
theorem zLM_takeArena_10 {G : GXM} {X : CxM} (hG : GokM G) (C : CoM G X cM_takeArena "HomeFreedModel") (N : mLM X = 2) {d : Nat} (hD : dpM X = d) (hd : 0 ≤ d) {v0 : Nat} {q : (Mem)} : ∀ (f : Nat) (v1 : Int32) (M : Mem), LM_takeArena_10 f v0 v1 M = some q → (hx0 : ∀ y : Mem, q = y → ZM G X 33 [(0, .ref v0)] [] y 0 0) → ZM G X 10 [(0, .ref v0), (1, .int v1)] [] M 0 0 := by
  intro f
  induction f with
  | zero => intro v1 M h; cases h
  | succ f ih =>
    intro v1 M h hx0
    exact zBM_takeArena_10 hG C N hD hd (K := LM_takeArena_10 f) (q := q) (fun v1 M h => ih v1 M h hx0) hx0 h
set_option maxHeartbeats 2000000 in
theorem xM_takeArena {G : GXM} {l : Launch} (hG : GokM G) (d : Nat) (hd : 0 ≤ d) {v0 : Nat} {M : Mem} {q : Int32 × Mem} (h : fM_takeArena v0 M = some q) : ExM G l d 0 0 yM_takeArena cM_takeArena 2 (some .int) [.ref v0] M (some (.int q.1)) q.2 := by
  refine ex_of hG (by decide) (Nat.le_of_ble_eq_true rfl) ?_
  intro X hl C E N hD hn
  show ZM G X 0 [(1, .int v1), (0, .ref v0)] [] M 0 0
  unfold fM_takeArena at h
  refine zz_aload_n C 0 ddM_takeArena_0 rfl rfl ?_
  refine zz_aload_n C 0 ddM_takeArena_1 rfl rfl ?_
  obtain ⟨h1, h⟩ := gdN h
  refine zz_geti C ddM_takeArena_2 fl_M_116 rfl h1 ?_
  refine zz_puti C ddM_takeArena_5 fl_M_144 rfl rfl rfl h1 ?_
  refine zz_iconst (v := 0) C ddM_takeArena_8 (by decide) ?_
  refine zz_istore_n (L1 := [(1, .int 0), (0, .ref v0)]) C ddM_takeArena_9 rfl N (by decide) rfl ?_
  refine zz_loc (L1 := [(0, .ref v0), (1, .int 0)]) [1, 0] rfl ?_
  obtain ⟨q2, hq2, h⟩ := bindN h
  refine zLM_takeArena_10 hG C N hD hd 1000000 _ _ hq2 ?_
  · intro y3 eq2; subst eq2
    refine zz_iconst (v := 0) C ddM_takeArena_33 (by decide) ?_
    refine zz_istore_n (L1 := [(1, .int 0), (0, .ref v0)]) C ddM_takeArena_34 rfl N (by decide) rfl ?_
    refine zz_loc (L1 := [(0, .ref v0), (1, .int 0)]) [1, 0] rfl ?_
    obtain ⟨q4, hq4, h⟩ := bindN h
    refine zLM_takeArena_35 hG C N hD hd 1000000 _ _ hq4 ?_
    · intro y5 eq4; subst eq4
      refine zz_iconst (v := 0) C ddM_takeArena_59 (by decide) ?_
      refine zz_istore_n (L1 := [(1, .int 0), (0, .ref v0)]) C ddM_takeArena_60 rfl N (by decide) rfl ?_
      refine zz_loc (L1 := [(0, .ref v0), (1, .int 0)]) [1, 0] rfl ?_
      obtain ⟨q6, hq6, h⟩ := bindN h
      refine zLM_takeArena_61 hG C N hD hd 1000000 _ _ hq6 ?_
      · intro y7 eq6; subst eq6
        refine zz_iconst (v := 0) C ddM_takeArena_81 (by decide) ?_
        refine zz_istore_n (L1 := [(1, .int 0), (0, .ref v0)]) C ddM_takeArena_82 rfl N (by decide) rfl ?_
        refine zz_loc (L1 := [(0, .ref v0), (1, .int 0)]) [1, 0] rfl ?_
        obtain ⟨q8, hq8, h⟩ := bindN h
        refine zLM_takeArena_83 hG C N hD hd 1000000 _ _ hq8 ?_
        · intro r9 eq8; subst eq8
          obtain rfl := Option.some.inj h
          exact E
theorem ddM_text_0 : decode cM_text 0 = .ok (.iload_n 1, 1) := by decide +kernel
theorem ddM_text_1 : decode cM_text 1 = .ok (.ifCond .ne 21, 3) := by decide +kernel
theorem ddM_text_4 : decode cM_text 4 = .ok (.aload_n 0, 1) := by decide +kernel
theorem ddM_text_5 : decode cM_text 5 = .ok (.invokevirtual 138, 3) := by decide +kernel
theorem ddM_text_8 : decode cM_text 8 = .ok (.iconst (-1), 1) := by decide +kernel
theorem ddM_text_9 : decode cM_text 9 = .ok (.if_icmp .ne 13, 3) := by decide +kernel
theorem ddM_text_12 : decode cM_text 12 = .ok (.aload_n 0, 1) := by decide +kernel
theorem ddM_text_13 : decode cM_text 13 = .ok (.iconst 0, 1) := by decide +kernel
theorem ddM_text_14 : decode cM_text 14 = .ok (.putfield 72, 3) := by decide +kernel
theorem ddM_text_17 : decode cM_text 17 = .ok (.aload_n 0, 1) := by decide +kernel
theorem ddM_text_18 : decode cM_text 18 = .ok (.invokevirtual 154, 3) := by decide +kernel
theorem ddM_text_21 : decode cM_text 21 = .ok (.ireturn, 1) := by decide +kernel
theorem ddM_text_22 : decode cM_text 22 = .ok (.iload_n 1, 1) := by decide +kernel
theorem ddM_text_23 : decode cM_text 23 = .ok (.iconst 1, 1) := by decide +kernel
theorem ddM_text_24 : decode cM_text 24 = .ok (.if_icmp .ne 45, 3) := by decide +kernel
theorem ddM_text_27 : decode cM_text 27 = .ok (.aload_n 0, 1) := by decide +kernel
theorem ddM_text_28 : decode cM_text 28 = .ok (.getfield 157, 3) := by decide +kernel
theorem ddM_text_31 : decode cM_text 31 = .ok (.iconst 4, 1) := by decide +kernel
theorem ddM_text_32 : decode cM_text 32 = .ok (.if_icmp .ge 37, 3) := by decide +kernel
theorem ddM_text_35 : decode cM_text 35 = .ok (.aload_n 0, 1) := by decide +kernel
theorem ddM_text_36 : decode cM_text 36 = .ok (.aload_n 0, 1) := by decide +kernel
theorem ddM_text_37 : decode cM_text 37 = .ok (.getfield 157, 3) := by decide +kernel
theorem ddM_text_40 : decode cM_text 40 = .ok (.invokevirtual 141, 3) := by decide +kernel
theorem ddM_text_43 : decode cM_text 43 = .ok (.iconst (-1), 1) := by decide +kernel
theorem ddM_text_44 : decode cM_text 44 = .ok (.if_icmp .ne 25, 3) := by decide +kernel
theorem ddM_text_47 : decode cM_text 47 = .ok (.aload_n 0, 1) := by decide +kernel
theorem ddM_text_48 : decode cM_text 48 = .ok (.iconst 0, 1) := by decide +kernel
theorem ddM_text_49 : decode cM_text 49 = .ok (.putfield 72, 3) := by decide +kernel
theorem ddM_text_52 : decode cM_text 52 = .ok (.aload_n 0, 1) := by decide +kernel
theorem ddM_text_53 : decode cM_text 53 = .ok (.dup, 1) := by decide +kernel
theorem ddM_text_54 : decode cM_text 54 = .ok (.getfield 157, 3) := by decide +kernel
theorem ddM_text_57 : decode cM_text 57 = .ok (.iconst 1, 1) := by decide +kernel
theorem ddM_text_58 : decode cM_text 58 = .ok (.iadd, 1) := by decide +kernel
theorem ddM_text_59 : decode cM_text 59 = .ok (.putfield 157, 3) := by decide +kernel
theorem ddM_text_62 : decode cM_text 62 = .ok (.aload_n 0, 1) := by decide +kernel
theorem ddM_text_63 : decode cM_text 63 = .ok (.getfield 157, 3) := by decide +kernel
theorem ddM_text_66 : decode cM_text 66 = .ok (.iconst 1, 1) := by decide +kernel
theorem ddM_text_67 : decode cM_text 67 = .ok (.isub, 1) := by decide +kernel
theorem ddM_text_68 : decode cM_text 68 = .ok (.ireturn, 1) := by decide +kernel
theorem ddM_text_69 : decode cM_text 69 = .ok (.iconst (-1), 1) := by decide +kernel
theorem ddM_text_70 : decode cM_text 70 = .ok (.ireturn, 1) := by decide +kernel
set_option maxHeartbeats 2000000 in
theorem zBM_text_69 {G : GXM} {X : CxM} (hG : GokM G) (C : CoM G X cM_text "HomeFreedModel") (N : mLM X = 2) {d : Nat} (hD : dpM X = d) (hd : 5 ≤ d)  {q : Int32 × Mem} (E : EnM G X (some .int) (some (.int q.1)) q.2 0 0) {M : Mem} (h : BM_text_69 M = some q) : ZM G X 69 [] [] M 0 0 := by
  unfold BM_text_69 at h
  refine zz_iconst (v := (-1)) C ddM_text_69 (by decide) ?_
  obtain rfl := Option.some.inj h
  exact zz_iret C E ddM_text_70
set_option maxHeartbeats 2000000 in
theorem zBM_text_22 {G : GXM} {X : CxM} (hG : GokM G) (C : CoM G X cM_text "HomeFreedModel") (N : mLM X = 2) {d : Nat} (hD : dpM X = d) (hd : 5 ≤ d)  {q : Int32 × Mem} (E : EnM G X (some .int) (some (.int q.1)) q.2 0 0) {v0 : Nat} {v1 : Int32} {M : Mem} (h : BM_text_22 v0 v1 M = some q) : ZM G X 22 [(0, .ref v0), (1, .int v1)] [] M 0 0 := by
  unfold BM_text_22 at h
  refine zz_iload_n C 1 ddM_text_22 rfl rfl ?_
  refine zz_iconst (v := 1) C ddM_text_23 (by decide) ?_
  refine zz_icmp_ne (tgt := 69) C ddM_text_24 rfl (fun hc => ?_) (fun hc => ?_)
  · replace h := iteF h hc
    refine zz_loc (L1 := []) [] rfl ?_
    exact zBM_text_69 hG C N hD hd E h
  · replace h := iteT h hc
    refine zz_aload_n C 0 ddM_text_27 rfl rfl ?_
    obtain ⟨h1, h⟩ := gdN h
    refine zz_geti C ddM_text_28 fl_M_157 rfl h1 ?_
    refine zz_iconst (v := 4) C ddM_text_31 (by decide) ?_
    refine zz_icmp_ge (tgt := 69) C ddM_text_32 rfl (fun hc => ?_) (fun hc => ?_)
    · replace h := iteT h hc
      refine zz_loc (L1 := []) [] rfl ?_
      exact zBM_text_69 hG C N hD hd E h
    · replace h := iteF h hc
      refine zz_aload_n C 0 ddM_text_35 rfl rfl ?_
      refine zz_aload_n C 0 ddM_text_36 rfl rfl ?_
      refine zz_geti C ddM_text_37 fl_M_157 rfl h1 ?_
      obtain ⟨q2, hq2, h⟩ := bindN h
      refine zz_callV0 (As := [.int (giM M v0 13)]) C ddM_text_40 wd_1339 my_M_readScript mv_M_readScript ⟨_, rfl, rfl⟩ (xM_readScript hG (d - 1) (by omega) hq2) (by omega) h1 rfl rfl (Nat.le_of_ble_eq_true rfl) ?_
      refine zz_iconst (v := (-1)) C ddM_text_43 (by decide) ?_
      refine zz_icmp_ne (tgt := 69) C ddM_text_44 rfl (fun hc => ?_) (fun hc => ?_)
      · replace h := iteF h hc
        refine zz_loc (L1 := []) [] rfl ?_
        exact zBM_text_69 hG C N hD hd E h
      · replace h := iteT h hc
        refine zz_aload_n C 0 ddM_text_47 rfl rfl ?_
        refine zz_iconst (v := 0) C ddM_text_48 (by decide) ?_
        obtain ⟨h3, h⟩ := gdN h
        refine zz_puti C ddM_text_49 fl_M_72 rfl rfl rfl h3 ?_
        refine zz_aload_n C 0 ddM_text_52 rfl rfl ?_
        refine zz_dup C ddM_text_53 rfl ?_
        refine zz_geti C ddM_text_54 fl_M_157 rfl h3 ?_
        refine zz_iconst (v := 1) C ddM_text_57 (by decide) ?_
        refine zz_iadd C ddM_text_58 ?_
        refine zz_puti C ddM_text_59 fl_M_157 rfl rfl rfl h3 ?_
        refine zz_aload_n C 0 ddM_text_62 rfl rfl ?_
        refine zz_geti C ddM_text_63 fl_M_157 rfl h3 ?_
        refine zz_iconst (v := 1) C ddM_text_66 (by decide) ?_
        refine zz_isub C ddM_text_67 ?_
        obtain rfl := Option.some.inj h
        exact zz_iret C E ddM_text_68
set_option maxHeartbeats 2000000 in
theorem xM_text {G : GXM} {l : Launch} (hG : GokM G) (d : Nat) (hd : 5 ≤ d) {v0 : Nat} {v1 : Int32} {M : Mem} {q : Int32 × Mem} (h : fM_text v0 v1 M = some q) : ExM G l d 0 0 yM_text cM_text 2 (some .int) [.ref v0, .int v1] M (some (.int q.1)) q.2 := by
  refine ex_of hG (by decide) (Nat.le_of_ble_eq_true rfl) ?_
  intro X hl C E N hD hn
  show ZM G X 0 [(0, .ref v0), (1, .int v1)] [] M 0 0
  unfold fM_text at h
  refine zz_iload_n C 1 ddM_text_0 rfl rfl ?_
  refine zz_if_ne (tgt := 22) C ddM_text_1 rfl (fun hc => ?_) (fun hc => ?_)
  · replace h := iteF h hc
    exact zBM_text_22 hG C N hD hd E h
  · replace h := iteT h hc
    refine zz_aload_n C 0 ddM_text_4 rfl rfl ?_
    obtain ⟨h2, h⟩ := gdN h
    obtain ⟨q1, hq1, h⟩ := bindN h
    refine zz_callV0 (As := []) C ddM_text_5 wd_1296 my_M_readArena mv_M_readArena ⟨_, rfl, rfl⟩ (xM_readArena hG (d - 1) (by omega) hq1) (by omega) h2 rfl rfl (Nat.le_of_ble_eq_true rfl) ?_
    refine zz_iconst (v := (-1)) C ddM_text_8 (by decide) ?_
    refine zz_icmp_ne (tgt := 22) C ddM_text_9 rfl (fun hc => ?_) (fun hc => ?_)
    · replace h := iteF h hc
      exact zBM_text_22 hG C N hD hd E h
    · replace h := iteT h hc
      refine zz_aload_n C 0 ddM_text_12 rfl rfl ?_
      refine zz_iconst (v := 0) C ddM_text_13 (by decide) ?_
      obtain ⟨h3, h⟩ := gdN h
      refine zz_puti C ddM_text_14 fl_M_72 rfl rfl rfl h3 ?_
      refine zz_aload_n C 0 ddM_text_17 rfl rfl ?_
      obtain ⟨q4, hq4, h⟩ := bindN h
      refine zz_callV0 (As := []) C ddM_text_18 wd_1354 my_M_takeArena mv_M_takeArena ⟨_, rfl, rfl⟩ (xM_takeArena hG (d - 1) (by omega) hq4) (by omega) h3 rfl rfl (Nat.le_of_ble_eq_true rfl) ?_
      obtain rfl := Option.some.inj h
      exact zz_iret C E ddM_text_21
theorem ddM_isArena_0 : decode cM_isArena 0 = .ok (.aload_n 0, 1) := by decide +kernel
theorem ddM_isArena_1 : decode cM_isArena 1 = .ok (.getfield 144, 3) := by decide +kernel
theorem ddM_isArena_4 : decode cM_isArena 4 = .ok (.ifCond .le 7, 3) := by decide +kernel
theorem ddM_isArena_7 : decode cM_isArena 7 = .ok (.iconst 1, 1) := by decide +kernel
theorem ddM_isArena_8 : decode cM_isArena 8 = .ok (.goto 4, 3) := by decide +kernel
theorem ddM_isArena_11 : decode cM_isArena 11 = .ok (.iconst 0, 1) := by decide +kernel
theorem ddM_isArena_12 : decode cM_isArena 12 = .ok (.ireturn, 1) := by decide +kernel
set_option maxHeartbeats 2000000 in
theorem zBM_isArena_12 {G : GXM} {X : CxM} (hG : GokM G) (C : CoM G X cM_isArena "HomeFreedModel") (N : mLM X = 1) {d : Nat} (hD : dpM X = d) (hd : 0 ≤ d)  {q : Int32 × Mem} (E : EnM G X (some .boolean) (some (.int q.1)) q.2 0 0) {w0 : Int32} {M : Mem} (h : BM_isArena_12 w0 M = some q) : ZM G X 12 [] [.int w0] M 0 0 := by
  unfold BM_isArena_12 at h
  obtain ⟨h1, h⟩ := gdN h
  obtain rfl := Option.some.inj h
  exact zz_zret C (of_decide_eq_true h1) E ddM_isArena_12
set_option maxHeartbeats 2000000 in
theorem xM_isArena {G : GXM} {l : Launch} (hG : GokM G) (d : Nat) (hd : 0 ≤ d) {v0 : Nat} {M : Mem} {q : Int32 × Mem} (h : fM_isArena v0 M = some q) : ExM G l d 0 0 yM_isArena cM_isArena 1 (some .boolean) [.ref v0] M (some (.int q.1)) q.2 := by
  refine ex_of hG (by decide) (Nat.le_of_ble_eq_true rfl) ?_
  intro X hl C E N hD hn
  show ZM G X 0 [(0, .ref v0)] [] M 0 0
  unfold fM_isArena at h
  refine zz_aload_n C 0 ddM_isArena_0 rfl rfl ?_
  obtain ⟨h1, h⟩ := gdN h
  refine zz_geti C ddM_isArena_1 fl_M_144 rfl h1 ?_
  refine zz_if_le (tgt := 11) C ddM_isArena_4 rfl (fun hc => ?_) (fun hc => ?_)
  · replace h := iteT h hc
    refine zz_iconst (v := 0) C ddM_isArena_11 (by decide) ?_
    refine zz_loc (L1 := []) [] rfl ?_
    exact zBM_isArena_12 hG C N hD hd E h
  · replace h := iteF h hc
    refine zz_iconst (v := 1) C ddM_isArena_7 (by decide) ?_
    refine zz_goto (tgt := 12) C ddM_isArena_8 rfl ?_
    refine zz_loc (L1 := []) [] rfl ?_
    exact zBM_isArena_12 hG C N hD hd E h
theorem ddM_rule_0 : decode cM_rule 0 = .ok (.aload_n 0, 1) := by decide +kernel
theorem ddM_rule_1 : decode cM_rule 1 = .ok (.invokevirtual 160, 3) := by decide +kernel
theorem ddM_rule_4 : decode cM_rule 4 = .ok (.ifCond .eq 21, 3) := by decide +kernel
theorem ddM_rule_7 : decode cM_rule 7 = .ok (.iload_n 1, 1) := by decide +kernel
theorem ddM_rule_8 : decode cM_rule 8 = .ok (.iconst 0, 1) := by decide +kernel
theorem ddM_rule_9 : decode cM_rule 9 = .ok (.iconst 4, 1) := by decide +kernel
theorem ddM_rule_10 : decode cM_rule 10 = .ok (.invokestatic 75, 3) := by decide +kernel
theorem ddM_rule_13 : decode cM_rule 13 = .ok (.ifCond .eq 12, 3) := by decide +kernel
theorem ddM_rule_16 : decode cM_rule 16 = .ok (.aload_n 0, 1) := by decide +kernel
theorem ddM_rule_17 : decode cM_rule 17 = .ok (.getfield 19, 3) := by decide +kernel
theorem ddM_rule_20 : decode cM_rule 20 = .ok (.iload_n 1, 1) := by decide +kernel
theorem ddM_rule_21 : decode cM_rule 21 = .ok (.iaload, 1) := by decide +kernel
theorem ddM_rule_22 : decode cM_rule 22 = .ok (.goto 4, 3) := by decide +kernel
theorem ddM_rule_25 : decode cM_rule 25 = .ok (.iconst (-1), 1) := by decide +kernel
theorem ddM_rule_26 : decode cM_rule 26 = .ok (.ireturn, 1) := by decide +kernel
set_option maxHeartbeats 2000000 in
theorem zBM_rule_26 {G : GXM} {X : CxM} (hG : GokM G) (C : CoM G X cM_rule "HomeFreedModel") (N : mLM X = 2) {d : Nat} (hD : dpM X = d) (hd : 1 ≤ d)  {q : Int32 × Mem} (E : EnM G X (some .int) (some (.int q.1)) q.2 0 0) {w0 : Int32} {M : Mem} (h : BM_rule_26 w0 M = some q) : ZM G X 26 [] [.int w0] M 0 0 := by
  unfold BM_rule_26 at h
  obtain rfl := Option.some.inj h
  exact zz_iret C E ddM_rule_26
set_option maxHeartbeats 2000000 in
theorem zBM_rule_25 {G : GXM} {X : CxM} (hG : GokM G) (C : CoM G X cM_rule "HomeFreedModel") (N : mLM X = 2) {d : Nat} (hD : dpM X = d) (hd : 1 ≤ d)  {q : Int32 × Mem} (E : EnM G X (some .int) (some (.int q.1)) q.2 0 0) {M : Mem} (h : BM_rule_25 M = some q) : ZM G X 25 [] [] M 0 0 := by
  unfold BM_rule_25 at h
  refine zz_iconst (v := (-1)) C ddM_rule_25 (by decide) ?_
  exact zBM_rule_26 hG C N hD hd E h
set_option maxHeartbeats 2000000 in
theorem xM_rule {G : GXM} {l : Launch} (hG : GokM G) (d : Nat) (hd : 1 ≤ d) {v0 : Nat} {v1 : Int32} {M : Mem} {q : Int32 × Mem} (h : fM_rule v0 v1 M = some q) : ExM G l d 0 0 yM_rule cM_rule 2 (some .int) [.ref v0, .int v1] M (some (.int q.1)) q.2 := by
  refine ex_of hG (by decide) (Nat.le_of_ble_eq_true rfl) ?_
  intro X hl C E N hD hn
  show ZM G X 0 [(0, .ref v0), (1, .int v1)] [] M 0 0
  unfold fM_rule at h
  refine zz_aload_n C 0 ddM_rule_0 rfl rfl ?_
  obtain ⟨h2, h⟩ := gdN h
  obtain ⟨q1, hq1, h⟩ := bindN h
  refine zz_callV0 (As := []) C ddM_rule_1 wd_1362 my_M_isArena mv_M_isArena ⟨_, rfl, rfl⟩ (xM_isArena hG (d - 1) (by omega) hq1) (by omega) h2 rfl rfl (Nat.le_of_ble_eq_true rfl) ?_
  refine zz_if_eq (tgt := 25) C ddM_rule_4 rfl (fun hc => ?_) (fun hc => ?_)
  · replace h := iteT h hc
    refine zz_loc (L1 := []) [] rfl ?_
    exact zBM_rule_25 hG C N hD hd E h
  · replace h := iteF h hc
    refine zz_iload_n C 1 ddM_rule_7 rfl rfl ?_
    refine zz_iconst (v := 0) C ddM_rule_8 (by decide) ?_
    refine zz_iconst (v := 4) C ddM_rule_9 (by decide) ?_
    obtain ⟨q3, hq3, h⟩ := bindN h
    refine zz_callS0 (As := [.int v1, .int 0, .int 4]) C ddM_rule_10 wd_1289 my_M_in mv_M_in (xM_in hG (d - 1) (by omega) hq3) (by omega) rfl rfl (Nat.le_of_ble_eq_true rfl) ?_
    refine zz_if_eq (tgt := 25) C ddM_rule_13 rfl (fun hc => ?_) (fun hc => ?_)
    · replace h := iteT h hc
      refine zz_loc (L1 := []) [] rfl ?_
      exact zBM_rule_25 hG C N hD hd E h
    · replace h := iteF h hc
      refine zz_aload_n C 0 ddM_rule_16 rfl rfl ?_
      obtain ⟨h4, h⟩ := gdN h
      obtain ⟨h5, h⟩ := gdN h
      refine zz_getr C ddM_rule_17 fl_M_19 rfl h4 (of_decide_eq_true h5) ?_
      refine zz_iload_n C 1 ddM_rule_20 rfl rfl ?_
      obtain ⟨h6, h⟩ := gdN h
      refine zz_iaload C ddM_rule_21 h6 ?_
      refine zz_goto (tgt := 26) C ddM_rule_22 rfl ?_
      refine zz_loc (L1 := []) [] rfl ?_
      exact zBM_rule_26 hG C N hD hd E h
theorem ddM_size_0 : decode cM_size 0 = .ok (.iload_n 1, 1) := by decide +kernel
theorem ddM_size_1 : decode cM_size 1 = .ok (.iconst 0, 1) := by decide +kernel
theorem ddM_size_2 : decode cM_size 2 = .ok (.aload_n 0, 1) := by decide +kernel
theorem ddM_size_3 : decode cM_size 3 = .ok (.getfield 144, 3) := by decide +kernel
theorem ddM_size_6 : decode cM_size 6 = .ok (.iconst 1, 1) := by decide +kernel
theorem ddM_size_7 : decode cM_size 7 = .ok (.isub, 1) := by decide +kernel
theorem ddM_size_8 : decode cM_size 8 = .ok (.invokestatic 75, 3) := by decide +kernel
theorem ddM_size_11 : decode cM_size 11 = .ok (.ifCond .eq 12, 3) := by decide +kernel
theorem ddM_size_14 : decode cM_size 14 = .ok (.aload_n 0, 1) := by decide +kernel
theorem ddM_size_15 : decode cM_size 15 = .ok (.getfield 22, 3) := by decide +kernel
theorem ddM_size_18 : decode cM_size 18 = .ok (.iload_n 1, 1) := by decide +kernel
theorem ddM_size_19 : decode cM_size 19 = .ok (.iaload, 1) := by decide +kernel
theorem ddM_size_20 : decode cM_size 20 = .ok (.goto 4, 3) := by decide +kernel
theorem ddM_size_23 : decode cM_size 23 = .ok (.iconst (-1), 1) := by decide +kernel
theorem ddM_size_24 : decode cM_size 24 = .ok (.ireturn, 1) := by decide +kernel
set_option maxHeartbeats 2000000 in
theorem zBM_size_24 {G : GXM} {X : CxM} (hG : GokM G) (C : CoM G X cM_size "HomeFreedModel") (N : mLM X = 2) {d : Nat} (hD : dpM X = d) (hd : 1 ≤ d)  {q : Int32 × Mem} (E : EnM G X (some .int) (some (.int q.1)) q.2 0 0) {w0 : Int32} {M : Mem} (h : BM_size_24 w0 M = some q) : ZM G X 24 [] [.int w0] M 0 0 := by
  unfold BM_size_24 at h
  obtain rfl := Option.some.inj h
  exact zz_iret C E ddM_size_24
set_option maxHeartbeats 2000000 in
theorem xM_size {G : GXM} {l : Launch} (hG : GokM G) (d : Nat) (hd : 1 ≤ d) {v0 : Nat} {v1 : Int32} {M : Mem} {q : Int32 × Mem} (h : fM_size v0 v1 M = some q) : ExM G l d 0 0 yM_size cM_size 2 (some .int) [.ref v0, .int v1] M (some (.int q.1)) q.2 := by
  refine ex_of hG (by decide) (Nat.le_of_ble_eq_true rfl) ?_
  intro X hl C E N hD hn
  show ZM G X 0 [(0, .ref v0), (1, .int v1)] [] M 0 0
  unfold fM_size at h
  refine zz_iload_n C 1 ddM_size_0 rfl rfl ?_
  refine zz_iconst (v := 0) C ddM_size_1 (by decide) ?_
  refine zz_aload_n C 0 ddM_size_2 rfl rfl ?_
  obtain ⟨h1, h⟩ := gdN h
  refine zz_geti C ddM_size_3 fl_M_144 rfl h1 ?_
  refine zz_iconst (v := 1) C ddM_size_6 (by decide) ?_
  refine zz_isub C ddM_size_7 ?_
  obtain ⟨q2, hq2, h⟩ := bindN h
  refine zz_callS0 (As := [.int v1, .int 0, .int ((giM M v0 10) - 1)]) C ddM_size_8 wd_1289 my_M_in mv_M_in (xM_in hG (d - 1) (by omega) hq2) (by omega) rfl rfl (Nat.le_of_ble_eq_true rfl) ?_
  refine zz_if_eq (tgt := 23) C ddM_size_11 rfl (fun hc => ?_) (fun hc => ?_)
  · replace h := iteT h hc
    refine zz_iconst (v := (-1)) C ddM_size_23 (by decide) ?_
    refine zz_loc (L1 := []) [] rfl ?_
    exact zBM_size_24 hG C N hD hd E h
  · replace h := iteF h hc
    refine zz_aload_n C 0 ddM_size_14 rfl rfl ?_
    obtain ⟨h3, h⟩ := gdN h
    obtain ⟨h4, h⟩ := gdN h
    refine zz_getr C ddM_size_15 fl_M_22 rfl h3 (of_decide_eq_true h4) ?_
    refine zz_iload_n C 1 ddM_size_18 rfl rfl ?_
    obtain ⟨h5, h⟩ := gdN h
    refine zz_iaload C ddM_size_19 h5 ?_
    refine zz_goto (tgt := 24) C ddM_size_20 rfl ?_
    refine zz_loc (L1 := []) [] rfl ?_
    exact zBM_size_24 hG C N hD hd E h
theorem ddM_isPage_0 : decode cM_isPage 0 = .ok (.aload_n 0, 1) := by decide +kernel
theorem ddM_isPage_1 : decode cM_isPage 1 = .ok (.invokevirtual 160, 3) := by decide +kernel
theorem ddM_isPage_4 : decode cM_isPage 4 = .ok (.ifCond .eq 23, 3) := by decide +kernel
theorem ddM_isPage_7 : decode cM_isPage 7 = .ok (.iload_n 1, 1) := by decide +kernel
theorem ddM_isPage_8 : decode cM_isPage 8 = .ok (.iconst 0, 1) := by decide +kernel
theorem ddM_isPage_9 : decode cM_isPage 9 = .ok (.aload_n 0, 1) := by decide +kernel
theorem ddM_isPage_10 : decode cM_isPage 10 = .ok (.getfield 19, 3) := by decide +kernel
theorem ddM_isPage_13 : decode cM_isPage 13 = .ok (.iconst 1, 1) := by decide +kernel
theorem ddM_isPage_14 : decode cM_isPage 14 = .ok (.iaload, 1) := by decide +kernel
theorem ddM_isPage_15 : decode cM_isPage 15 = .ok (.iconst 1, 1) := by decide +kernel
theorem ddM_isPage_16 : decode cM_isPage 16 = .ok (.isub, 1) := by decide +kernel
theorem ddM_isPage_17 : decode cM_isPage 17 = .ok (.invokestatic 75, 3) := by decide +kernel
theorem ddM_isPage_20 : decode cM_isPage 20 = .ok (.ifCond .eq 7, 3) := by decide +kernel
theorem ddM_isPage_23 : decode cM_isPage 23 = .ok (.iconst 1, 1) := by decide +kernel
theorem ddM_isPage_24 : decode cM_isPage 24 = .ok (.goto 4, 3) := by decide +kernel
theorem ddM_isPage_27 : decode cM_isPage 27 = .ok (.iconst 0, 1) := by decide +kernel
theorem ddM_isPage_28 : decode cM_isPage 28 = .ok (.ireturn, 1) := by decide +kernel
set_option maxHeartbeats 2000000 in
theorem zBM_isPage_28 {G : GXM} {X : CxM} (hG : GokM G) (C : CoM G X cM_isPage "HomeFreedModel") (N : mLM X = 2) {d : Nat} (hD : dpM X = d) (hd : 1 ≤ d)  {q : Int32 × Mem} (E : EnM G X (some .boolean) (some (.int q.1)) q.2 0 0) {w0 : Int32} {M : Mem} (h : BM_isPage_28 w0 M = some q) : ZM G X 28 [] [.int w0] M 0 0 := by
  unfold BM_isPage_28 at h
  obtain ⟨h1, h⟩ := gdN h
  obtain rfl := Option.some.inj h
  exact zz_zret C (of_decide_eq_true h1) E ddM_isPage_28
set_option maxHeartbeats 2000000 in
theorem zBM_isPage_27 {G : GXM} {X : CxM} (hG : GokM G) (C : CoM G X cM_isPage "HomeFreedModel") (N : mLM X = 2) {d : Nat} (hD : dpM X = d) (hd : 1 ≤ d)  {q : Int32 × Mem} (E : EnM G X (some .boolean) (some (.int q.1)) q.2 0 0) {M : Mem} (h : BM_isPage_27 M = some q) : ZM G X 27 [] [] M 0 0 := by
  unfold BM_isPage_27 at h
  refine zz_iconst (v := 0) C ddM_isPage_27 (by decide) ?_
  exact zBM_isPage_28 hG C N hD hd E h
set_option maxHeartbeats 2000000 in
theorem xM_isPage {G : GXM} {l : Launch} (hG : GokM G) (d : Nat) (hd : 1 ≤ d) {v0 : Nat} {v1 : Int32} {M : Mem} {q : Int32 × Mem} (h : fM_isPage v0 v1 M = some q) : ExM G l d 0 0 yM_isPage cM_isPage 2 (some .boolean) [.ref v0, .int v1] M (some (.int q.1)) q.2 := by
  refine ex_of hG (by decide) (Nat.le_of_ble_eq_true rfl) ?_
  intro X hl C E N hD hn
  show ZM G X 0 [(0, .ref v0), (1, .int v1)] [] M 0 0
  unfold fM_isPage at h
  refine zz_aload_n C 0 ddM_isPage_0 rfl rfl ?_
  obtain ⟨h2, h⟩ := gdN h
  obtain ⟨q1, hq1, h⟩ := bindN h
  refine zz_callV0 (As := []) C ddM_isPage_1 wd_1362 my_M_isArena mv_M_isArena ⟨_, rfl, rfl⟩ (xM_isArena hG (d - 1) (by omega) hq1) (by omega) h2 rfl rfl (Nat.le_of_ble_eq_true rfl) ?_
  refine zz_if_eq (tgt := 27) C ddM_isPage_4 rfl (fun hc => ?_) (fun hc => ?_)
  · replace h := iteT h hc
    refine zz_loc (L1 := []) [] rfl ?_
    exact zBM_isPage_27 hG C N hD hd E h
  · replace h := iteF h hc
    refine zz_iload_n C 1 ddM_isPage_7 rfl rfl ?_
    refine zz_iconst (v := 0) C ddM_isPage_8 (by decide) ?_
    refine zz_aload_n C 0 ddM_isPage_9 rfl rfl ?_
    obtain ⟨h3, h⟩ := gdN h
    obtain ⟨h4, h⟩ := gdN h
    refine zz_getr C ddM_isPage_10 fl_M_19 rfl h3 (of_decide_eq_true h4) ?_
    refine zz_iconst (v := 1) C ddM_isPage_13 (by decide) ?_
    obtain ⟨h5, h⟩ := gdN h
    refine zz_iaload C ddM_isPage_14 h5 ?_
    refine zz_iconst (v := 1) C ddM_isPage_15 (by decide) ?_
    refine zz_isub C ddM_isPage_16 ?_
    obtain ⟨q6, hq6, h⟩ := bindN h
    refine zz_callS0 (As := [.int v1, .int 0, .int ((giM q1.2 (grM q1.2 v0 8) (Int32.toNatClampNeg 1)) - 1)]) C ddM_isPage_17 wd_1289 my_M_in mv_M_in (xM_in hG (d - 1) (by omega) hq6) (by omega) rfl rfl (Nat.le_of_ble_eq_true rfl) ?_
    refine zz_if_eq (tgt := 27) C ddM_isPage_20 rfl (fun hc => ?_) (fun hc => ?_)
    · replace h := iteT h hc
      refine zz_loc (L1 := []) [] rfl ?_
      exact zBM_isPage_27 hG C N hD hd E h
    · replace h := iteF h hc
      refine zz_iconst (v := 1) C ddM_isPage_23 (by decide) ?_
      refine zz_goto (tgt := 28) C ddM_isPage_24 rfl ?_
      refine zz_loc (L1 := []) [] rfl ?_
      exact zBM_isPage_28 hG C N hD hd E h
theorem ddM_of_0 : decode cM_of 0 = .ok (.aload_n 0, 1) := by decide +kernel
theorem ddM_of_1 : decode cM_of 1 = .ok (.getfield 31, 3) := by decide +kernel
theorem ddM_of_4 : decode cM_of 4 = .ok (.sipush 166, 3) := by decide +kernel
theorem ddM_of_7 : decode cM_of 7 = .ok (.iload_n 1, 1) := by decide +kernel
theorem ddM_of_8 : decode cM_of 8 = .ok (.imul, 1) := by decide +kernel
theorem ddM_of_9 : decode cM_of 9 = .ok (.iload_n 2, 1) := by decide +kernel
theorem ddM_of_10 : decode cM_of 10 = .ok (.iadd, 1) := by decide +kernel
theorem ddM_of_11 : decode cM_of 11 = .ok (.iaload, 1) := by decide +kernel
theorem ddM_of_12 : decode cM_of 12 = .ok (.ireturn, 1) := by decide +kernel
set_option maxHeartbeats 2000000 in
theorem xM_of {G : GXM} {l : Launch} (hG : GokM G) (d : Nat) (hd : 0 ≤ d) {v0 : Nat} {v1 : Int32} {v2 : Int32} {M : Mem} {q : Int32 × Mem} (h : fM_of v0 v1 v2 M = some q) : ExM G l d 0 0 yM_of cM_of 3 (some .int) [.ref v0, .int v1, .int v2] M (some (.int q.1)) q.2 := by
  refine ex_of hG (by decide) (Nat.le_of_ble_eq_true rfl) ?_
  intro X hl C E N hD hn
  show ZM G X 0 [(0, .ref v0), (1, .int v1), (2, .int v2)] [] M 0 0
  unfold fM_of at h
  refine zz_aload_n C 0 ddM_of_0 rfl rfl ?_
  obtain ⟨h1, h⟩ := gdN h
  obtain ⟨h2, h⟩ := gdN h
  refine zz_getr C ddM_of_1 fl_M_31 rfl h1 (of_decide_eq_true h2) ?_
  refine zz_sipush (v := 166) C ddM_of_4 (by decide) ?_
  refine zz_iload_n C 1 ddM_of_7 rfl rfl ?_
  refine zz_imul C ddM_of_8 ?_
  refine zz_iload_n C 2 ddM_of_9 rfl rfl ?_
  refine zz_iadd C ddM_of_10 ?_
  obtain ⟨h3, h⟩ := gdN h
  refine zz_iaload C ddM_of_11 h3 ?_
  obtain rfl := Option.some.inj h
  exact zz_iret C E ddM_of_12
theorem ddM_isOwned_0 : decode cM_isOwned 0 = .ok (.aload_n 0, 1) := by decide +kernel
theorem ddM_isOwned_1 : decode cM_isOwned 1 = .ok (.iload_n 1, 1) := by decide +kernel
theorem ddM_isOwned_2 : decode cM_isOwned 2 = .ok (.iconst 0, 1) := by decide +kernel
theorem ddM_isOwned_3 : decode cM_isOwned 3 = .ok (.invokevirtual 170, 3) := by decide +kernel
theorem ddM_isOwned_6 : decode cM_isOwned 6 = .ok (.iconst 1, 1) := by decide +kernel
theorem ddM_isOwned_7 : decode cM_isOwned 7 = .ok (.if_icmp .eq 13, 3) := by decide +kernel
theorem ddM_isOwned_10 : decode cM_isOwned 10 = .ok (.aload_n 0, 1) := by decide +kernel
theorem ddM_isOwned_11 : decode cM_isOwned 11 = .ok (.iload_n 1, 1) := by decide +kernel
theorem ddM_isOwned_12 : decode cM_isOwned 12 = .ok (.iconst 0, 1) := by decide +kernel
theorem ddM_isOwned_13 : decode cM_isOwned 13 = .ok (.invokevirtual 170, 3) := by decide +kernel
theorem ddM_isOwned_16 : decode cM_isOwned 16 = .ok (.iconst 2, 1) := by decide +kernel
theorem ddM_isOwned_17 : decode cM_isOwned 17 = .ok (.if_icmp .ne 7, 3) := by decide +kernel
theorem ddM_isOwned_20 : decode cM_isOwned 20 = .ok (.iconst 1, 1) := by decide +kernel
theorem ddM_isOwned_21 : decode cM_isOwned 21 = .ok (.goto 4, 3) := by decide +kernel
theorem ddM_isOwned_24 : decode cM_isOwned 24 = .ok (.iconst 0, 1) := by decide +kernel
theorem ddM_isOwned_25 : decode cM_isOwned 25 = .ok (.ireturn, 1) := by decide +kernel
set_option maxHeartbeats 2000000 in
theorem zBM_isOwned_25 {G : GXM} {X : CxM} (hG : GokM G) (C : CoM G X cM_isOwned "HomeFreedModel") (N : mLM X = 2) {d : Nat} (hD : dpM X = d) (hd : 1 ≤ d)  {q : Int32 × Mem} (E : EnM G X (some .boolean) (some (.int q.1)) q.2 0 0) {w0 : Int32} {M : Mem} (h : BM_isOwned_25 w0 M = some q) : ZM G X 25 [] [.int w0] M 0 0 := by
  unfold BM_isOwned_25 at h
  obtain ⟨h1, h⟩ := gdN h
  obtain rfl := Option.some.inj h
  exact zz_zret C (of_decide_eq_true h1) E ddM_isOwned_25
set_option maxHeartbeats 2000000 in
theorem zBM_isOwned_20 {G : GXM} {X : CxM} (hG : GokM G) (C : CoM G X cM_isOwned "HomeFreedModel") (N : mLM X = 2) {d : Nat} (hD : dpM X = d) (hd : 1 ≤ d)  {q : Int32 × Mem} (E : EnM G X (some .boolean) (some (.int q.1)) q.2 0 0) {M : Mem} (h : BM_isOwned_20 M = some q) : ZM G X 20 [] [] M 0 0 := by
  unfold BM_isOwned_20 at h
  refine zz_iconst (v := 1) C ddM_isOwned_20 (by decide) ?_
  refine zz_goto (tgt := 25) C ddM_isOwned_21 rfl ?_
  exact zBM_isOwned_25 hG C N hD hd E h
set_option maxHeartbeats 2000000 in
theorem xM_isOwned {G : GXM} {l : Launch} (hG : GokM G) (d : Nat) (hd : 1 ≤ d) {v0 : Nat} {v1 : Int32} {M : Mem} {q : Int32 × Mem} (h : fM_isOwned v0 v1 M = some q) : ExM G l d 0 0 yM_isOwned cM_isOwned 2 (some .boolean) [.ref v0, .int v1] M (some (.int q.1)) q.2 := by
  refine ex_of hG (by decide) (Nat.le_of_ble_eq_true rfl) ?_
  intro X hl C E N hD hn
  show ZM G X 0 [(0, .ref v0), (1, .int v1)] [] M 0 0
  unfold fM_isOwned at h
  refine zz_aload_n C 0 ddM_isOwned_0 rfl rfl ?_
  refine zz_iload_n C 1 ddM_isOwned_1 rfl rfl ?_
  refine zz_iconst (v := 0) C ddM_isOwned_2 (by decide) ?_
  obtain ⟨h2, h⟩ := gdN h
  obtain ⟨q1, hq1, h⟩ := bindN h
  refine zz_callV0 (As := [.int v1, .int 0]) C ddM_isOwned_3 wd_1378 my_M_of mv_M_of ⟨_, rfl, rfl⟩ (xM_of hG (d - 1) (by omega) hq1) (by omega) h2 rfl rfl (Nat.le_of_ble_eq_true rfl) ?_
  refine zz_iconst (v := 1) C ddM_isOwned_6 (by decide) ?_
  refine zz_icmp_eq (tgt := 20) C ddM_isOwned_7 rfl (fun hc => ?_) (fun hc => ?_)
  · replace h := iteT h hc
    refine zz_loc (L1 := []) [] rfl ?_
    exact zBM_isOwned_20 hG C N hD hd E h
  · replace h := iteF h hc
    refine zz_aload_n C 0 ddM_isOwned_10 rfl rfl ?_
    refine zz_iload_n C 1 ddM_isOwned_11 rfl rfl ?_
    refine zz_iconst (v := 0) C ddM_isOwned_12 (by decide) ?_
    obtain ⟨h4, h⟩ := gdN h
    obtain ⟨q3, hq3, h⟩ := bindN h
    refine zz_callV0 (As := [.int v1, .int 0]) C ddM_isOwned_13 wd_1378 my_M_of mv_M_of ⟨_, rfl, rfl⟩ (xM_of hG (d - 1) (by omega) hq3) (by omega) h4 rfl rfl (Nat.le_of_ble_eq_true rfl) ?_
    refine zz_iconst (v := 2) C ddM_isOwned_16 (by decide) ?_
    refine zz_icmp_ne (tgt := 24) C ddM_isOwned_17 rfl (fun hc => ?_) (fun hc => ?_)
    · replace h := iteF h hc
      refine zz_iconst (v := 0) C ddM_isOwned_24 (by decide) ?_
      refine zz_loc (L1 := []) [] rfl ?_
      exact zBM_isOwned_25 hG C N hD hd E h
    · replace h := iteT h hc
      refine zz_loc (L1 := []) [] rfl ?_
      exact zBM_isOwned_20 hG C N hD hd E h
theorem ddM_blocksOf_0 : decode cM_blocksOf 0 = .ok (.aload_n 0, 1) := by decide +kernel
theorem ddM_blocksOf_1 : decode cM_blocksOf 1 = .ok (.iload_n 1, 1) := by decide +kernel
theorem ddM_blocksOf_2 : decode cM_blocksOf 2 = .ok (.iconst 0, 1) := by decide +kernel
theorem ddM_blocksOf_3 : decode cM_blocksOf 3 = .ok (.invokevirtual 170, 3) := by decide +kernel
theorem ddM_blocksOf_6 : decode cM_blocksOf 6 = .ok (.ifCond .ne 7, 3) := by decide +kernel
theorem ddM_blocksOf_9 : decode cM_blocksOf 9 = .ok (.iconst 0, 1) := by decide +kernel
theorem ddM_blocksOf_10 : decode cM_blocksOf 10 = .ok (.goto 21, 3) := by decide +kernel
theorem ddM_blocksOf_13 : decode cM_blocksOf 13 = .ok (.aload_n 0, 1) := by decide +kernel
theorem ddM_blocksOf_14 : decode cM_blocksOf 14 = .ok (.getfield 19, 3) := by decide +kernel
theorem ddM_blocksOf_17 : decode cM_blocksOf 17 = .ok (.iconst 2, 1) := by decide +kernel
theorem ddM_blocksOf_18 : decode cM_blocksOf 18 = .ok (.iaload, 1) := by decide +kernel
theorem ddM_blocksOf_19 : decode cM_blocksOf 19 = .ok (.aload_n 0, 1) := by decide +kernel
theorem ddM_blocksOf_20 : decode cM_blocksOf 20 = .ok (.getfield 22, 3) := by decide +kernel
theorem ddM_blocksOf_23 : decode cM_blocksOf 23 = .ok (.aload_n 0, 1) := by decide +kernel
theorem ddM_blocksOf_24 : decode cM_blocksOf 24 = .ok (.iload_n 1, 1) := by decide +kernel
theorem ddM_blocksOf_25 : decode cM_blocksOf 25 = .ok (.iconst 2, 1) := by decide +kernel
theorem ddM_blocksOf_26 : decode cM_blocksOf 26 = .ok (.invokevirtual 170, 3) := by decide +kernel
theorem ddM_blocksOf_29 : decode cM_blocksOf 29 = .ok (.iaload, 1) := by decide +kernel
theorem ddM_blocksOf_30 : decode cM_blocksOf 30 = .ok (.idiv, 1) := by decide +kernel
theorem ddM_blocksOf_31 : decode cM_blocksOf 31 = .ok (.ireturn, 1) := by decide +kernel
set_option maxHeartbeats 2000000 in
theorem zBM_blocksOf_31 {G : GXM} {X : CxM} (hG : GokM G) (C : CoM G X cM_blocksOf "HomeFreedModel") (N : mLM X = 2) {d : Nat} (hD : dpM X = d) (hd : 1 ≤ d)  {q : Int32 × Mem} (E : EnM G X (some .int) (some (.int q.1)) q.2 0 0) {w0 : Int32} {M : Mem} (h : BM_blocksOf_31 w0 M = some q) : ZM G X 31 [] [.int w0] M 0 0 := by
  unfold BM_blocksOf_31 at h
  obtain rfl := Option.some.inj h
  exact zz_iret C E ddM_blocksOf_31
set_option maxHeartbeats 2000000 in
theorem xM_blocksOf {G : GXM} {l : Launch} (hG : GokM G) (d : Nat) (hd : 1 ≤ d) {v0 : Nat} {v1 : Int32} {M : Mem} {q : Int32 × Mem} (h : fM_blocksOf v0 v1 M = some q) : ExM G l d 0 0 yM_blocksOf cM_blocksOf 2 (some .int) [.ref v0, .int v1] M (some (.int q.1)) q.2 := by
  refine ex_of hG (by decide) (Nat.le_of_ble_eq_true rfl) ?_
  intro X hl C E N hD hn
  show ZM G X 0 [(0, .ref v0), (1, .int v1)] [] M 0 0
  unfold fM_blocksOf at h
  refine zz_aload_n C 0 ddM_blocksOf_0 rfl rfl ?_
  refine zz_iload_n C 1 ddM_blocksOf_1 rfl rfl ?_
  refine zz_iconst (v := 0) C ddM_blocksOf_2 (by decide) ?_
  obtain ⟨h2, h⟩ := gdN h
  obtain ⟨q1, hq1, h⟩ := bindN h
  refine zz_callV0 (As := [.int v1, .int 0]) C ddM_blocksOf_3 wd_1378 my_M_of mv_M_of ⟨_, rfl, rfl⟩ (xM_of hG (d - 1) (by omega) hq1) (by omega) h2 rfl rfl (Nat.le_of_ble_eq_true rfl) ?_
  refine zz_if_ne (tgt := 13) C ddM_blocksOf_6 rfl (fun hc => ?_) (fun hc => ?_)
  · replace h := iteF h hc
    refine zz_aload_n C 0 ddM_blocksOf_13 rfl rfl ?_
    obtain ⟨h3, h⟩ := gdN h
    obtain ⟨h4, h⟩ := gdN h
    refine zz_getr C ddM_blocksOf_14 fl_M_19 rfl h3 (of_decide_eq_true h4) ?_
    refine zz_iconst (v := 2) C ddM_blocksOf_17 (by decide) ?_
    obtain ⟨h5, h⟩ := gdN h
    refine zz_iaload C ddM_blocksOf_18 h5 ?_
    refine zz_aload_n C 0 ddM_blocksOf_19 rfl rfl ?_
    obtain ⟨h6, h⟩ := gdN h
    refine zz_getr C ddM_blocksOf_20 fl_M_22 rfl h3 (of_decide_eq_true h6) ?_
    refine zz_aload_n C 0 ddM_blocksOf_23 rfl rfl ?_
    refine zz_iload_n C 1 ddM_blocksOf_24 rfl rfl ?_
    refine zz_iconst (v := 2) C ddM_blocksOf_25 (by decide) ?_
    obtain ⟨q7, hq7, h⟩ := bindN h
    refine zz_callV0 (As := [.int v1, .int 2]) C ddM_blocksOf_26 wd_1378 my_M_of mv_M_of ⟨_, rfl, rfl⟩ (xM_of hG (d - 1) (by omega) hq7) (by omega) h3 rfl rfl (Nat.le_of_ble_eq_true rfl) ?_
    obtain ⟨h8, h⟩ := gdN h
    refine zz_iaload C ddM_blocksOf_29 h8 ?_
    obtain ⟨h9, h⟩ := gdN h
    refine zz_idiv C ddM_blocksOf_30 (of_decide_eq_true h9) ?_
    refine zz_loc (L1 := []) [] rfl ?_
    exact zBM_blocksOf_31 hG C N hD hd E h
  · replace h := iteT h hc
    refine zz_iconst (v := 0) C ddM_blocksOf_9 (by decide) ?_
    refine zz_goto (tgt := 31) C ddM_blocksOf_10 rfl ?_
    refine zz_loc (L1 := []) [] rfl ?_
    exact zBM_blocksOf_31 hG C N hD hd E h
theorem ddM_listAt_0 : decode cM_listAt 0 = .ok (.sipush 166, 3) := by decide +kernel
theorem ddM_listAt_3 : decode cM_listAt 3 = .ok (.iload_n 0, 1) := by decide +kernel
theorem ddM_listAt_4 : decode cM_listAt 4 = .ok (.imul, 1) := by decide +kernel
theorem ddM_listAt_5 : decode cM_listAt 5 = .ok (.iconst 3, 1) := by decide +kernel
theorem ddM_listAt_6 : decode cM_listAt 6 = .ok (.iadd, 1) := by decide +kernel
theorem ddM_listAt_7 : decode cM_listAt 7 = .ok (.bipush 41, 2) := by decide +kernel
theorem ddM_listAt_9 : decode cM_listAt 9 = .ok (.iload_n 1, 1) := by decide +kernel
theorem ddM_listAt_10 : decode cM_listAt 10 = .ok (.imul, 1) := by decide +kernel
theorem ddM_listAt_11 : decode cM_listAt 11 = .ok (.iadd, 1) := by decide +kernel
theorem ddM_listAt_12 : decode cM_listAt 12 = .ok (.ireturn, 1) := by decide +kernel
set_option maxHeartbeats 2000000 in
theorem xM_listAt {G : GXM} {l : Launch} (hG : GokM G) (d : Nat) (hd : 0 ≤ d) {v0 : Int32} {v1 : Int32} {M : Mem} {q : Int32 × Mem} (h : fM_listAt v0 v1 M = some q) : ExM G l d 0 0 yM_listAt cM_listAt 2 (some .int) [.int v0, .int v1] M (some (.int q.1)) q.2 := by
  refine ex_of hG (by decide) (Nat.le_of_ble_eq_true rfl) ?_
  intro X hl C E N hD hn
  show ZM G X 0 [(0, .int v0), (1, .int v1)] [] M 0 0
  unfold fM_listAt at h
  refine zz_sipush (v := 166) C ddM_listAt_0 (by decide) ?_
  refine zz_iload_n C 0 ddM_listAt_3 rfl rfl ?_
  refine zz_imul C ddM_listAt_4 ?_
  refine zz_iconst (v := 3) C ddM_listAt_5 (by decide) ?_
  refine zz_iadd C ddM_listAt_6 ?_
  refine zz_bipush (v := 41) C ddM_listAt_7 (by decide) ?_
  refine zz_iload_n C 1 ddM_listAt_9 rfl rfl ?_
  refine zz_imul C ddM_listAt_10 ?_
  refine zz_iadd C ddM_listAt_11 ?_
  obtain rfl := Option.some.inj h
  exact zz_iret C E ddM_listAt_12
theorem ddM_listedOf_0 : decode cM_listedOf 0 = .ok (.aload_n 0, 1) := by decide +kernel
theorem ddM_listedOf_1 : decode cM_listedOf 1 = .ok (.getfield 31, 3) := by decide +kernel
theorem ddM_listedOf_4 : decode cM_listedOf 4 = .ok (.iload_n 1, 1) := by decide +kernel
theorem ddM_listedOf_5 : decode cM_listedOf 5 = .ok (.iconst 0, 1) := by decide +kernel
theorem ddM_listedOf_6 : decode cM_listedOf 6 = .ok (.invokestatic 173, 3) := by decide +kernel
theorem ddM_listedOf_9 : decode cM_listedOf 9 = .ok (.iaload, 1) := by decide +kernel
theorem ddM_listedOf_10 : decode cM_listedOf 10 = .ok (.aload_n 0, 1) := by decide +kernel
theorem ddM_listedOf_11 : decode cM_listedOf 11 = .ok (.getfield 31, 3) := by decide +kernel
theorem ddM_listedOf_14 : decode cM_listedOf 14 = .ok (.iload_n 1, 1) := by decide +kernel
theorem ddM_listedOf_15 : decode cM_listedOf 15 = .ok (.iconst 1, 1) := by decide +kernel
theorem ddM_listedOf_16 : decode cM_listedOf 16 = .ok (.invokestatic 173, 3) := by decide +kernel
theorem ddM_listedOf_19 : decode cM_listedOf 19 = .ok (.iaload, 1) := by decide +kernel
theorem ddM_listedOf_20 : decode cM_listedOf 20 = .ok (.iadd, 1) := by decide +kernel
theorem ddM_listedOf_21 : decode cM_listedOf 21 = .ok (.aload_n 0, 1) := by decide +kernel
theorem ddM_listedOf_22 : decode cM_listedOf 22 = .ok (.getfield 31, 3) := by decide +kernel
theorem ddM_listedOf_25 : decode cM_listedOf 25 = .ok (.iload_n 1, 1) := by decide +kernel
theorem ddM_listedOf_26 : decode cM_listedOf 26 = .ok (.iconst 2, 1) := by decide +kernel
theorem ddM_listedOf_27 : decode cM_listedOf 27 = .ok (.invokestatic 173, 3) := by decide +kernel
theorem ddM_listedOf_30 : decode cM_listedOf 30 = .ok (.iaload, 1) := by decide +kernel
theorem ddM_listedOf_31 : decode cM_listedOf 31 = .ok (.iadd, 1) := by decide +kernel
theorem ddM_listedOf_32 : decode cM_listedOf 32 = .ok (.ireturn, 1) := by decide +kernel
set_option maxHeartbeats 2000000 in
theorem xM_listedOf {G : GXM} {l : Launch} (hG : GokM G) (d : Nat) (hd : 1 ≤ d) {v0 : Nat} {v1 : Int32} {M : Mem} {q : Int32 × Mem} (h : fM_listedOf v0 v1 M = some q) : ExM G l d 0 0 yM_listedOf cM_listedOf 2 (some .int) [.ref v0, .int v1] M (some (.int q.1)) q.2 := by
  refine ex_of hG (by decide) (Nat.le_of_ble_eq_true rfl) ?_
  intro X hl C E N hD hn
  show ZM G X 0 [(0, .ref v0), (1, .int v1)] [] M 0 0
  unfold fM_listedOf at h
  refine zz_aload_n C 0 ddM_listedOf_0 rfl rfl ?_
  obtain ⟨h1, h⟩ := gdN h
  obtain ⟨h2, h⟩ := gdN h
  refine zz_getr C ddM_listedOf_1 fl_M_31 rfl h1 (of_decide_eq_true h2) ?_
  refine zz_iload_n C 1 ddM_listedOf_4 rfl rfl ?_
  refine zz_iconst (v := 0) C ddM_listedOf_5 (by decide) ?_
  obtain ⟨q3, hq3, h⟩ := bindN h
  refine zz_callS0 (As := [.int v1, .int 0]) C ddM_listedOf_6 wd_1398 my_M_listAt mv_M_listAt (xM_listAt hG (d - 1) (by omega) hq3) (by omega) rfl rfl (Nat.le_of_ble_eq_true rfl) ?_
  obtain ⟨h4, h⟩ := gdN h
  refine zz_iaload C ddM_listedOf_9 h4 ?_
  refine zz_aload_n C 0 ddM_listedOf_10 rfl rfl ?_
  obtain ⟨h5, h⟩ := gdN h
  obtain ⟨h6, h⟩ := gdN h
  refine zz_getr C ddM_listedOf_11 fl_M_31 rfl h5 (of_decide_eq_true h6) ?_
  refine zz_iload_n C 1 ddM_listedOf_14 rfl rfl ?_
  refine zz_iconst (v := 1) C ddM_listedOf_15 (by decide) ?_
  obtain ⟨q7, hq7, h⟩ := bindN h
  refine zz_callS0 (As := [.int v1, .int 1]) C ddM_listedOf_16 wd_1398 my_M_listAt mv_M_listAt (xM_listAt hG (d - 1) (by omega) hq7) (by omega) rfl rfl (Nat.le_of_ble_eq_true rfl) ?_
  obtain ⟨h8, h⟩ := gdN h
  refine zz_iaload C ddM_listedOf_19 h8 ?_
  refine zz_iadd C ddM_listedOf_20 ?_
  refine zz_aload_n C 0 ddM_listedOf_21 rfl rfl ?_
  obtain ⟨h9, h⟩ := gdN h
  obtain ⟨h10, h⟩ := gdN h
  refine zz_getr C ddM_listedOf_22 fl_M_31 rfl h9 (of_decide_eq_true h10) ?_
  refine zz_iload_n C 1 ddM_listedOf_25 rfl rfl ?_
  refine zz_iconst (v := 2) C ddM_listedOf_26 (by decide) ?_
  obtain ⟨q11, hq11, h⟩ := bindN h
  refine zz_callS0 (As := [.int v1, .int 2]) C ddM_listedOf_27 wd_1398 my_M_listAt mv_M_listAt (xM_listAt hG (d - 1) (by omega) hq11) (by omega) rfl rfl (Nat.le_of_ble_eq_true rfl) ?_
  obtain ⟨h12, h⟩ := gdN h
  refine zz_iaload C ddM_listedOf_30 h12 ?_
  refine zz_iadd C ddM_listedOf_31 ?_
  obtain rfl := Option.some.inj h
  exact zz_iret C E ddM_listedOf_32
