theorem ddA_waste_0 : decode cA_waste 0 = .ok (.iload_n 1, 1) := by decide +kernel
theorem ddA_waste_1 : decode cA_waste 1 = .ok (.ifCond .ne 11, 3) := by decide +kernel
theorem ddA_waste_4 : decode cA_waste 4 = .ok (.aload_n 0, 1) := by decide +kernel
theorem ddA_waste_5 : decode cA_waste 5 = .ok (.getfield 28, 3) := by decide +kernel
theorem ddA_waste_8 : decode cA_waste 8 = .ok (.invokevirtual 310, 3) := by decide +kernel
theorem ddA_waste_11 : decode cA_waste 11 = .ok (.ireturn, 1) := by decide +kernel
theorem ddA_waste_12 : decode cA_waste 12 = .ok (.aload_n 0, 1) := by decide +kernel
theorem ddA_waste_13 : decode cA_waste 13 = .ok (.getfield 28, 3) := by decide +kernel
theorem ddA_waste_16 : decode cA_waste 16 = .ok (.iload_n 1, 1) := by decide +kernel
theorem ddA_waste_17 : decode cA_waste 17 = .ok (.invokevirtual 220, 3) := by decide +kernel
theorem ddA_waste_20 : decode cA_waste 20 = .ok (.istore_n 2, 1) := by decide +kernel
theorem ddA_waste_21 : decode cA_waste 21 = .ok (.iload_n 2, 1) := by decide +kernel
theorem ddA_waste_22 : decode cA_waste 22 = .ok (.iconst (-1), 1) := by decide +kernel
theorem ddA_waste_23 : decode cA_waste 23 = .ok (.if_icmp .ne 7, 3) := by decide +kernel
theorem ddA_waste_26 : decode cA_waste 26 = .ok (.iconst (-1), 1) := by decide +kernel
theorem ddA_waste_27 : decode cA_waste 27 = .ok (.goto 14, 3) := by decide +kernel
theorem ddA_waste_30 : decode cA_waste 30 = .ok (.aload_n 0, 1) := by decide +kernel
theorem ddA_waste_31 : decode cA_waste 31 = .ok (.getfield 28, 3) := by decide +kernel
theorem ddA_waste_34 : decode cA_waste 34 = .ok (.getfield 143, 3) := by decide +kernel
theorem ddA_waste_37 : decode cA_waste 37 = .ok (.iload_n 2, 1) := by decide +kernel
theorem ddA_waste_38 : decode cA_waste 38 = .ok (.iaload, 1) := by decide +kernel
theorem ddA_waste_39 : decode cA_waste 39 = .ok (.iload_n 1, 1) := by decide +kernel
theorem ddA_waste_40 : decode cA_waste 40 = .ok (.isub, 1) := by decide +kernel
theorem ddA_waste_41 : decode cA_waste 41 = .ok (.ireturn, 1) := by decide +kernel
set_option maxHeartbeats 2000000 in
theorem zBA_waste_41 {G : GXM} {X : CxM} (hG : GokM G) (C : CoM G X cA_waste "HomeFreed") (N : mLM X = 3) {d : Nat} (hD : dpM X = d) (hd : 2 ≤ d)  {q : Int32 × Mem} (E : EnM G X (some .int) (some (.int q.1)) q.2 0 0) {w0 : Int32} {M : Mem} (h : BA_waste_41 w0 M = some q) : ZM G X 41 [] [.int w0] M 0 0 := by
  unfold BA_waste_41 at h
  obtain rfl := Option.some.inj h
  exact zz_iret C E ddA_waste_41
set_option maxHeartbeats 2000000 in
theorem xA_waste {G : GXM} {l : Launch} (hG : GokM G) (d : Nat) (hd : 2 ≤ d) {v0 : Nat} {v1 : Int32} {M : Mem} {q : Int32 × Mem} (h : fA_waste v0 v1 M = some q) : ExM G l d 0 0 yA_waste cA_waste 3 (some .int) [.ref v0, .int v1] M (some (.int q.1)) q.2 := by
  refine ex_of hG (by decide +kernel) (Nat.le_of_ble_eq_true rfl) ?_
  intro X hl C E N hD hn
  show ZM G X 0 [(0, .ref v0), (1, .int v1)] [] M 0 0
  unfold fA_waste at h
  refine zz_iload_n C 1 ddA_waste_0 rfl rfl ?_
  refine zz_if_ne (tgt := 12) C ddA_waste_1 rfl (fun hc => ?_) (fun hc => ?_)
  · replace h := iteF h hc
    refine zz_aload_n C 0 ddA_waste_12 rfl rfl ?_
    obtain ⟨h1, h⟩ := gdN h
    obtain ⟨h2, h⟩ := gdN h
    refine zz_getr C ddA_waste_13 fl_A_28 rfl h1 (of_decide_eq_true h2) ?_
    refine zz_iload_n C 1 ddA_waste_16 rfl rfl ?_
    obtain ⟨h4, h⟩ := gdN h
    obtain ⟨q3, hq3, h⟩ := bindN h
    refine zz_callV0 (As := [.int v1]) C ddA_waste_17 wd_661 my_U_kindFor mv_U_kindFor ⟨_, rfl, rfl⟩ (xU_kindFor hG (d - 1) (by omega) hq3) (by omega) h4 rfl rfl (Nat.le_of_ble_eq_true rfl) ?_
    refine zz_istore_n (L1 := [(2, .int q3.1), (0, .ref v0), (1, .int v1)]) C ddA_waste_20 rfl N (by decide) rfl ?_
    refine zz_iload_n C 0 ddA_waste_21 rfl rfl ?_
    refine zz_iconst (v := (-1)) C ddA_waste_22 (by decide) ?_
    refine zz_icmp_ne (tgt := 30) C ddA_waste_23 rfl (fun hc => ?_) (fun hc => ?_)
    · replace h := iteF h hc
      refine zz_aload_n C 1 ddA_waste_30 rfl rfl ?_
      obtain ⟨h5, h⟩ := gdN h
      obtain ⟨h6, h⟩ := gdN h
      refine zz_getr C ddA_waste_31 fl_A_28 rfl h5 (of_decide_eq_true h6) ?_
      obtain ⟨h7, h⟩ := gdN h
      obtain ⟨h8, h⟩ := gdN h
      refine zz_getr C ddA_waste_34 fl_A_143 rfl h7 (of_decide_eq_true h8) ?_
      refine zz_iload_n C 0 ddA_waste_37 rfl rfl ?_
      obtain ⟨h9, h⟩ := gdN h
      refine zz_iaload C ddA_waste_38 h9 ?_
      refine zz_iload_n C 2 ddA_waste_39 rfl rfl ?_
      refine zz_isub C ddA_waste_40 ?_
      refine zz_loc (L1 := []) [] rfl ?_
      exact zBA_waste_41 hG C N hD hd E h
    · replace h := iteT h hc
      refine zz_iconst (v := (-1)) C ddA_waste_26 (by decide) ?_
      refine zz_goto (tgt := 41) C ddA_waste_27 rfl ?_
      refine zz_loc (L1 := []) [] rfl ?_
      exact zBA_waste_41 hG C N hD hd E h
  · replace h := iteT h hc
    refine zz_aload_n C 0 ddA_waste_4 rfl rfl ?_
    obtain ⟨h10, h⟩ := gdN h
    obtain ⟨h11, h⟩ := gdN h
    refine zz_getr C ddA_waste_5 fl_A_28 rfl h10 (of_decide_eq_true h11) ?_
    obtain ⟨h13, h⟩ := gdN h
    obtain ⟨q12, hq12, h⟩ := bindN h
    refine zz_callV0 (As := []) C ddA_waste_8 wd_930 my_U_worst mv_U_worst ⟨_, rfl, rfl⟩ (xU_worst hG (d - 1) (by omega) hq12) (by omega) h13 rfl rfl (Nat.le_of_ble_eq_true rfl) ?_
    obtain rfl := Option.some.inj h
    exact zz_iret C E ddA_waste_11
theorem ddA_nextSize_0 : decode cA_nextSize 0 = .ok (.iload_n 0, 1) := by decide +kernel
theorem ddA_nextSize_1 : decode cA_nextSize 1 = .ok (.istore_n 3, 1) := by decide +kernel
theorem ddA_nextSize_2 : decode cA_nextSize 2 = .ok (.iload_n 0, 1) := by decide +kernel
theorem ddA_nextSize_3 : decode cA_nextSize 3 = .ok (.istore 4, 2) := by decide +kernel
theorem ddA_nextSize_5 : decode cA_nextSize 5 = .ok (.iload 4, 2) := by decide +kernel
theorem ddA_nextSize_7 : decode cA_nextSize 7 = .ok (.iload_n 2, 1) := by decide +kernel
theorem ddA_nextSize_8 : decode cA_nextSize 8 = .ok (.if_icmp .gt 26, 3) := by decide +kernel
theorem ddA_nextSize_11 : decode cA_nextSize 11 = .ok (.bipush 100, 2) := by decide +kernel
theorem ddA_nextSize_13 : decode cA_nextSize 13 = .ok (.iload 4, 2) := by decide +kernel
theorem ddA_nextSize_15 : decode cA_nextSize 15 = .ok (.iload_n 0, 1) := by decide +kernel
theorem ddA_nextSize_16 : decode cA_nextSize 16 = .ok (.isub, 1) := by decide +kernel
theorem ddA_nextSize_17 : decode cA_nextSize 17 = .ok (.imul, 1) := by decide +kernel
theorem ddA_nextSize_18 : decode cA_nextSize 18 = .ok (.iload_n 1, 1) := by decide +kernel
theorem ddA_nextSize_19 : decode cA_nextSize 19 = .ok (.iload 4, 2) := by decide +kernel
theorem ddA_nextSize_21 : decode cA_nextSize 21 = .ok (.imul, 1) := by decide +kernel
theorem ddA_nextSize_22 : decode cA_nextSize 22 = .ok (.if_icmp .gt 6, 3) := by decide +kernel
theorem ddA_nextSize_25 : decode cA_nextSize 25 = .ok (.iload 4, 2) := by decide +kernel
theorem ddA_nextSize_27 : decode cA_nextSize 27 = .ok (.istore_n 3, 1) := by decide +kernel
theorem ddA_nextSize_28 : decode cA_nextSize 28 = .ok (.iinc 4 1, 3) := by decide +kernel
theorem ddA_nextSize_31 : decode cA_nextSize 31 = .ok (.goto (-26), 3) := by decide +kernel
theorem ddA_nextSize_34 : decode cA_nextSize 34 = .ok (.iload_n 3, 1) := by decide +kernel
theorem ddA_nextSize_35 : decode cA_nextSize 35 = .ok (.ireturn, 1) := by decide +kernel
set_option maxHeartbeats 2000000 in
theorem zBA_nextSize_28 {G : GXM} {X : CxM} (hG : GokM G) (C : CoM G X cA_nextSize "HomeFreed") (N : mLM X = 5) {d : Nat} (hD : dpM X = d) (hd : 0 ≤ d) {v0 : Int32} {v1 : Int32} {v2 : Int32} {K : Int32 → Int32 → Int32 → Int32 → Int32 → Mem → Option ((Int32 × Mem))} {q : (Int32 × Mem)} (hK : ∀ (v3 : Int32) (v4 : Int32) (M : Mem), K v0 v1 v2 v3 v4 M = some q → ZM G X 5 [(0, .int v0), (1, .int v1), (2, .int v2), (3, .int v3), (4, .int v4)] [] M 0 0) (hr : ∀ r : Int32 × Mem, q =  r → EnM G X (some .int) (some (.int r.1)) r.2 0 0) {v3 : Int32} {v4 : Int32} {M : Mem} (h : BA_nextSize_28 K v0 v1 v2 v3 v4 M = some q) : ZM G X 28 [(0, .int v0), (1, .int v1), (2, .int v2), (3, .int v3), (4, .int v4)] [] M 0 0 := by
  unfold BA_nextSize_28 at h
  refine zz_iinc (v := v4 + 1) (L1 := [(4, .int (v4 + 1)), (0, .int v0), (1, .int v1), (2, .int v2), (3, .int v3)]) C 4 ddA_nextSize_28 rfl rfl N (by decide) rfl ?_
  refine zz_goto (tgt := 5) C ddA_nextSize_31 rfl ?_
  refine zz_loc (L1 := [(0, .int v0), (1, .int v1), (2, .int v2), (3, .int v3), (4, .int (v4 + 1))]) [1, 2, 3, 4, 0] rfl ?_
  exact hK _ _ _ h
set_option maxHeartbeats 2000000 in
theorem zBA_nextSize_5 {G : GXM} {X : CxM} (hG : GokM G) (C : CoM G X cA_nextSize "HomeFreed") (N : mLM X = 5) {d : Nat} (hD : dpM X = d) (hd : 0 ≤ d) {v0 : Int32} {v1 : Int32} {v2 : Int32} {K : Int32 → Int32 → Int32 → Int32 → Int32 → Mem → Option ((Int32 × Mem))} {q : (Int32 × Mem)} (hK : ∀ (v3 : Int32) (v4 : Int32) (M : Mem), K v0 v1 v2 v3 v4 M = some q → ZM G X 5 [(0, .int v0), (1, .int v1), (2, .int v2), (3, .int v3), (4, .int v4)] [] M 0 0) (hr : ∀ r : Int32 × Mem, q =  r → EnM G X (some .int) (some (.int r.1)) r.2 0 0) {v3 : Int32} {v4 : Int32} {M : Mem} (h : BA_nextSize_5 K v0 v1 v2 v3 v4 M = some q) : ZM G X 5 [(0, .int v0), (1, .int v1), (2, .int v2), (3, .int v3), (4, .int v4)] [] M 0 0 := by
  unfold BA_nextSize_5 at h
  refine zz_iload C 4 ddA_nextSize_5 rfl ?_
  refine zz_iload_n C 2 ddA_nextSize_7 rfl rfl ?_
  refine zz_icmp_gt (tgt := 34) C ddA_nextSize_8 rfl (fun hc => ?_) (fun hc => ?_)
  · replace h := iteT h hc
    refine zz_iload_n C 3 ddA_nextSize_34 rfl rfl ?_
    exact zz_iret C (hr _ (Option.some.inj h).symm) ddA_nextSize_35
  · replace h := iteF h hc
    refine zz_bipush (v := 100) C ddA_nextSize_11 (by decide) ?_
    refine zz_iload C 4 ddA_nextSize_13 rfl ?_
    refine zz_iload_n C 0 ddA_nextSize_15 rfl rfl ?_
    refine zz_isub C ddA_nextSize_16 ?_
    refine zz_imul C ddA_nextSize_17 ?_
    refine zz_iload_n C 1 ddA_nextSize_18 rfl rfl ?_
    refine zz_iload C 4 ddA_nextSize_19 rfl ?_
    refine zz_imul C ddA_nextSize_21 ?_
    refine zz_icmp_gt (tgt := 28) C ddA_nextSize_22 rfl (fun hc => ?_) (fun hc => ?_)
    · replace h := iteT h hc
      exact zBA_nextSize_28 hG C N hD hd hK hr h
    · replace h := iteF h hc
      refine zz_iload C 4 ddA_nextSize_25 rfl ?_
      refine zz_istore_n (L1 := [(3, .int v4), (0, .int v0), (1, .int v1), (2, .int v2), (4, .int v4)]) C ddA_nextSize_27 rfl N (by decide) rfl ?_
      refine zz_loc (L1 := [(0, .int v0), (1, .int v1), (2, .int v2), (3, .int v4), (4, .int v4)]) [1, 2, 3, 0, 4] rfl ?_
      exact zBA_nextSize_28 hG C N hD hd hK hr h
set_option maxHeartbeats 2000000 in
theorem zLA_nextSize_5 {G : GXM} {X : CxM} (hG : GokM G) (C : CoM G X cA_nextSize "HomeFreed") (N : mLM X = 5) {d : Nat} (hD : dpM X = d) (hd : 0 ≤ d) {v0 : Int32} {v1 : Int32} {v2 : Int32} {q : (Int32 × Mem)} : ∀ (f : Nat) (v3 : Int32) (v4 : Int32) (M : Mem), LA_nextSize_5 f v0 v1 v2 v3 v4 M = some q → (hr : ∀ r : Int32 × Mem, q =  r → EnM G X (some .int) (some (.int r.1)) r.2 0 0) → ZM G X 5 [(0, .int v0), (1, .int v1), (2, .int v2), (3, .int v3), (4, .int v4)] [] M 0 0 := by
  intro f
  induction f with
  | zero => intro v3 v4 M h; cases h
  | succ f ih =>
    intro v3 v4 M h hr
    exact zBA_nextSize_5 hG C N hD hd (K := LA_nextSize_5 f) (q := q) (fun v3 v4 M h => ih v3 v4 M h hr) hr h
set_option maxHeartbeats 2000000 in
theorem xA_nextSize {G : GXM} {l : Launch} (hG : GokM G) (d : Nat) (hd : 0 ≤ d) {v0 : Int32} {v1 : Int32} {v2 : Int32} {M : Mem} {q : Int32 × Mem} (h : fA_nextSize v0 v1 v2 M = some q) : ExM G l d 0 0 yA_nextSize cA_nextSize 5 (some .int) [.int v0, .int v1, .int v2] M (some (.int q.1)) q.2 := by
  refine ex_of hG (by decide +kernel) (Nat.le_of_ble_eq_true rfl) ?_
  intro X hl C E N hD hn
  show ZM G X 0 [(0, .int v0), (1, .int v1), (2, .int v2)] [] M 0 0
  unfold fA_nextSize at h
  refine zz_iload_n C 0 ddA_nextSize_0 rfl rfl ?_
  refine zz_istore_n (L1 := [(3, .int v0), (0, .int v0), (1, .int v1), (2, .int v2)]) C ddA_nextSize_1 rfl N (by decide) rfl ?_
  refine zz_iload_n C 1 ddA_nextSize_2 rfl rfl ?_
  refine zz_istore (L1 := [(4, .int v0), (3, .int v0), (0, .int v0), (1, .int v1), (2, .int v2)]) C ddA_nextSize_3 N (by decide) rfl ?_
  refine zz_loc (L1 := [(0, .int v0), (1, .int v1), (2, .int v2), (3, .int v0), (4, .int v0)]) [2, 3, 4, 1, 0] rfl ?_
  obtain ⟨q1, hq1, h⟩ := bindN h
  refine zLA_nextSize_5 hG C N hD hd 1000000 _ _ _ hq1 ?_
  · intro r2 eq1; replace eq1 := eq1.symm; subst eq1
    obtain rfl := Option.some.inj h
    exact E
theorem ddA_classes_0 : decode cA_classes 0 = .ok (.aload_n 0, 1) := by decide +kernel
theorem ddA_classes_1 : decode cA_classes 1 = .ok (.getfield 28, 3) := by decide +kernel
theorem ddA_classes_4 : decode cA_classes 4 = .ok (.invokevirtual 132, 3) := by decide +kernel
theorem ddA_classes_7 : decode cA_classes 7 = .ok (.ifCond .eq 18, 3) := by decide +kernel
theorem ddA_classes_10 : decode cA_classes 10 = .ok (.iload_n 1, 1) := by decide +kernel
theorem ddA_classes_11 : decode cA_classes 11 = .ok (.ifCond .lt 14, 3) := by decide +kernel
theorem ddA_classes_14 : decode cA_classes 14 = .ok (.iload_n 1, 1) := by decide +kernel
theorem ddA_classes_15 : decode cA_classes 15 = .ok (.bipush 90, 2) := by decide +kernel
theorem ddA_classes_17 : decode cA_classes 17 = .ok (.if_icmp .gt 8, 3) := by decide +kernel
theorem ddA_classes_20 : decode cA_classes 20 = .ok (.iload_n 2, 1) := by decide +kernel
theorem ddA_classes_21 : decode cA_classes 21 = .ok (.iconst (-1), 1) := by decide +kernel
theorem ddA_classes_22 : decode cA_classes 22 = .ok (.if_icmp .ge 5, 3) := by decide +kernel
theorem ddA_classes_25 : decode cA_classes 25 = .ok (.iconst (-1), 1) := by decide +kernel
theorem ddA_classes_26 : decode cA_classes 26 = .ok (.ireturn, 1) := by decide +kernel
theorem ddA_classes_27 : decode cA_classes 27 = .ok (.aload_n 0, 1) := by decide +kernel
theorem ddA_classes_28 : decode cA_classes 28 = .ok (.getfield 28, 3) := by decide +kernel
theorem ddA_classes_31 : decode cA_classes 31 = .ok (.getfield 136, 3) := by decide +kernel
theorem ddA_classes_34 : decode cA_classes 34 = .ok (.iconst 2, 1) := by decide +kernel
theorem ddA_classes_35 : decode cA_classes 35 = .ok (.iaload, 1) := by decide +kernel
theorem ddA_classes_36 : decode cA_classes 36 = .ok (.istore_n 3, 1) := by decide +kernel
theorem ddA_classes_37 : decode cA_classes 37 = .ok (.iconst 1, 1) := by decide +kernel
theorem ddA_classes_38 : decode cA_classes 38 = .ok (.istore 4, 2) := by decide +kernel
theorem ddA_classes_40 : decode cA_classes 40 = .ok (.iconst 1, 1) := by decide +kernel
theorem ddA_classes_41 : decode cA_classes 41 = .ok (.istore 5, 2) := by decide +kernel
theorem ddA_classes_43 : decode cA_classes 43 = .ok (.iconst 0, 1) := by decide +kernel
theorem ddA_classes_44 : decode cA_classes 44 = .ok (.istore 6, 2) := by decide +kernel
theorem ddA_classes_46 : decode cA_classes 46 = .ok (.iload 6, 2) := by decide +kernel
theorem ddA_classes_48 : decode cA_classes 48 = .ok (.bipush 40, 2) := by decide +kernel
theorem ddA_classes_50 : decode cA_classes 50 = .ok (.if_icmp .ge 37, 3) := by decide +kernel
theorem ddA_classes_53 : decode cA_classes 53 = .ok (.iload 4, 2) := by decide +kernel
theorem ddA_classes_55 : decode cA_classes 55 = .ok (.iload_n 3, 1) := by decide +kernel
theorem ddA_classes_56 : decode cA_classes 56 = .ok (.if_icmp .ge 31, 3) := by decide +kernel
theorem ddA_classes_59 : decode cA_classes 59 = .ok (.iload 5, 2) := by decide +kernel
theorem ddA_classes_61 : decode cA_classes 61 = .ok (.iconst 1, 1) := by decide +kernel
theorem ddA_classes_62 : decode cA_classes 62 = .ok (.isub, 1) := by decide +kernel
theorem ddA_classes_63 : decode cA_classes 63 = .ok (.iload_n 2, 1) := by decide +kernel
theorem ddA_classes_64 : decode cA_classes 64 = .ok (.if_icmp .eq 23, 3) := by decide +kernel
theorem ddA_classes_67 : decode cA_classes 67 = .ok (.iload 4, 2) := by decide +kernel
theorem ddA_classes_69 : decode cA_classes 69 = .ok (.iconst 1, 1) := by decide +kernel
theorem ddA_classes_70 : decode cA_classes 70 = .ok (.iadd, 1) := by decide +kernel
theorem ddA_classes_71 : decode cA_classes 71 = .ok (.iload_n 1, 1) := by decide +kernel
theorem ddA_classes_72 : decode cA_classes 72 = .ok (.iload_n 3, 1) := by decide +kernel
theorem ddA_classes_73 : decode cA_classes 73 = .ok (.invokestatic 313, 3) := by decide +kernel
theorem ddA_classes_76 : decode cA_classes 76 = .ok (.istore 4, 2) := by decide +kernel
theorem ddA_classes_78 : decode cA_classes 78 = .ok (.iinc 5 1, 3) := by decide +kernel
theorem ddA_classes_81 : decode cA_classes 81 = .ok (.iinc 6 1, 3) := by decide +kernel
theorem ddA_classes_84 : decode cA_classes 84 = .ok (.goto (-38), 3) := by decide +kernel
theorem ddA_classes_87 : decode cA_classes 87 = .ok (.iload_n 2, 1) := by decide +kernel
theorem ddA_classes_88 : decode cA_classes 88 = .ok (.iconst (-1), 1) := by decide +kernel
theorem ddA_classes_89 : decode cA_classes 89 = .ok (.if_icmp .ne 6, 3) := by decide +kernel
theorem ddA_classes_92 : decode cA_classes 92 = .ok (.iload 5, 2) := by decide +kernel
theorem ddA_classes_94 : decode cA_classes 94 = .ok (.ireturn, 1) := by decide +kernel
theorem ddA_classes_95 : decode cA_classes 95 = .ok (.iload 5, 2) := by decide +kernel
theorem ddA_classes_97 : decode cA_classes 97 = .ok (.iconst 1, 1) := by decide +kernel
theorem ddA_classes_98 : decode cA_classes 98 = .ok (.isub, 1) := by decide +kernel
theorem ddA_classes_99 : decode cA_classes 99 = .ok (.iload_n 2, 1) := by decide +kernel
theorem ddA_classes_100 : decode cA_classes 100 = .ok (.if_icmp .ne 8, 3) := by decide +kernel
theorem ddA_classes_103 : decode cA_classes 103 = .ok (.iload 4, 2) := by decide +kernel
theorem ddA_classes_105 : decode cA_classes 105 = .ok (.goto 4, 3) := by decide +kernel
theorem ddA_classes_108 : decode cA_classes 108 = .ok (.iconst (-1), 1) := by decide +kernel
theorem ddA_classes_109 : decode cA_classes 109 = .ok (.ireturn, 1) := by decide +kernel
set_option maxHeartbeats 2000000 in
theorem zBA_classes_109 {G : GXM} {X : CxM} (hG : GokM G) (C : CoM G X cA_classes "HomeFreed") (N : mLM X = 7) {d : Nat} (hD : dpM X = d) (hd : 1 ≤ d)  {q : Int32 × Mem} (E : EnM G X (some .int) (some (.int q.1)) q.2 0 0) {w0 : Int32} {M : Mem} (h : BA_classes_109 w0 M = some q) : ZM G X 109 [] [.int w0] M 0 0 := by
  unfold BA_classes_109 at h
  obtain rfl := Option.some.inj h
  exact zz_iret C E ddA_classes_109
set_option maxHeartbeats 2000000 in
theorem zBA_classes_87 {G : GXM} {X : CxM} (hG : GokM G) (C : CoM G X cA_classes "HomeFreed") (N : mLM X = 7) {d : Nat} (hD : dpM X = d) (hd : 1 ≤ d)  {q : Int32 × Mem} (E : EnM G X (some .int) (some (.int q.1)) q.2 0 0) {v2 : Int32} {v4 : Int32} {v5 : Int32} {M : Mem} (h : BA_classes_87 v2 v4 v5 M = some q) : ZM G X 87 [(2, .int v2), (4, .int v4), (5, .int v5)] [] M 0 0 := by
  unfold BA_classes_87 at h
  refine zz_iload_n C 0 ddA_classes_87 rfl rfl ?_
  refine zz_iconst (v := (-1)) C ddA_classes_88 (by decide) ?_
  refine zz_icmp_ne (tgt := 95) C ddA_classes_89 rfl (fun hc => ?_) (fun hc => ?_)
  · replace h := iteF h hc
    refine zz_iload C 2 ddA_classes_95 rfl ?_
    refine zz_iconst (v := 1) C ddA_classes_97 (by decide) ?_
    refine zz_isub C ddA_classes_98 ?_
    refine zz_iload_n C 0 ddA_classes_99 rfl rfl ?_
    refine zz_icmp_ne (tgt := 108) C ddA_classes_100 rfl (fun hc => ?_) (fun hc => ?_)
    · replace h := iteF h hc
      refine zz_iconst (v := (-1)) C ddA_classes_108 (by decide) ?_
      refine zz_loc (L1 := []) [] rfl ?_
      exact zBA_classes_109 hG C N hD hd E h
    · replace h := iteT h hc
      refine zz_iload C 1 ddA_classes_103 rfl ?_
      refine zz_goto (tgt := 109) C ddA_classes_105 rfl ?_
      refine zz_loc (L1 := []) [] rfl ?_
      exact zBA_classes_109 hG C N hD hd E h
  · replace h := iteT h hc
    refine zz_iload C 2 ddA_classes_92 rfl ?_
    obtain rfl := Option.some.inj h
    exact zz_iret C E ddA_classes_94
set_option maxHeartbeats 2000000 in
theorem zBA_classes_46 {G : GXM} {X : CxM} (hG : GokM G) (C : CoM G X cA_classes "HomeFreed") (N : mLM X = 7) {d : Nat} (hD : dpM X = d) (hd : 1 ≤ d) {v1 : Int32} {v2 : Int32} {v3 : Int32} {K : Int32 → Int32 → Int32 → Int32 → Int32 → Int32 → Mem → Option ((Int32 × Int32 × Mem))} {q : (Int32 × Int32 × Mem)} (hK : ∀ (v4 : Int32) (v5 : Int32) (v6 : Int32) (M : Mem), K v1 v2 v3 v4 v5 v6 M = some q → ZM G X 46 [(1, .int v1), (2, .int v2), (3, .int v3), (4, .int v4), (5, .int v5), (6, .int v6)] [] M 0 0) (hx0 : ∀ y : Int32 × Int32 × Mem, q = y → ZM G X 87 [(2, .int v2), (4, .int y.1), (5, .int y.2.1)] [] y.2.2 0 0) {v4 : Int32} {v5 : Int32} {v6 : Int32} {M : Mem} (h : BA_classes_46 K v1 v2 v3 v4 v5 v6 M = some q) : ZM G X 46 [(1, .int v1), (2, .int v2), (3, .int v3), (4, .int v4), (5, .int v5), (6, .int v6)] [] M 0 0 := by
  unfold BA_classes_46 at h
  refine zz_iload C 5 ddA_classes_46 rfl ?_
  refine zz_bipush (v := 40) C ddA_classes_48 (by decide) ?_
  refine zz_icmp_ge (tgt := 87) C ddA_classes_50 rfl (fun hc => ?_) (fun hc => ?_)
  · replace h := iteT h hc
    refine zz_loc (L1 := [(2, .int v2), (4, .int v4), (5, .int v5)]) [1, 3, 4] rfl ?_
    exact hx0 _ (Option.some.inj h).symm
  · replace h := iteF h hc
    refine zz_iload C 3 ddA_classes_53 rfl ?_
    refine zz_iload_n C 2 ddA_classes_55 rfl rfl ?_
    refine zz_icmp_ge (tgt := 87) C ddA_classes_56 rfl (fun hc => ?_) (fun hc => ?_)
    · replace h := iteT h hc
      refine zz_loc (L1 := [(2, .int v2), (4, .int v4), (5, .int v5)]) [1, 3, 4] rfl ?_
      exact hx0 _ (Option.some.inj h).symm
    · replace h := iteF h hc
      refine zz_iload C 4 ddA_classes_59 rfl ?_
      refine zz_iconst (v := 1) C ddA_classes_61 (by decide) ?_
      refine zz_isub C ddA_classes_62 ?_
      refine zz_iload_n C 1 ddA_classes_63 rfl rfl ?_
      refine zz_icmp_eq (tgt := 87) C ddA_classes_64 rfl (fun hc => ?_) (fun hc => ?_)
      · replace h := iteT h hc
        refine zz_loc (L1 := [(2, .int v2), (4, .int v4), (5, .int v5)]) [1, 3, 4] rfl ?_
        exact hx0 _ (Option.some.inj h).symm
      · replace h := iteF h hc
        refine zz_iload C 3 ddA_classes_67 rfl ?_
        refine zz_iconst (v := 1) C ddA_classes_69 (by decide) ?_
        refine zz_iadd C ddA_classes_70 ?_
        refine zz_iload_n C 0 ddA_classes_71 rfl rfl ?_
        refine zz_iload_n C 2 ddA_classes_72 rfl rfl ?_
        obtain ⟨q1, hq1, h⟩ := bindN h
        refine zz_callS0 (As := [.int (v4 + 1), .int v1, .int v3]) C ddA_classes_73 wd_939 my_A_nextSize mv_A_nextSize (xA_nextSize hG (d - 1) (by omega) hq1) (by omega) rfl rfl (Nat.le_of_ble_eq_true rfl) ?_
        refine zz_istore (L1 := [(4, .int q1.1), (1, .int v1), (2, .int v2), (3, .int v3), (5, .int v5), (6, .int v6)]) C ddA_classes_76 N (by decide) rfl ?_
        refine zz_iinc (v := v5 + 1) (L1 := [(5, .int (v5 + 1)), (4, .int q1.1), (1, .int v1), (2, .int v2), (3, .int v3), (6, .int v6)]) C 4 ddA_classes_78 rfl rfl N (by decide) rfl ?_
        refine zz_iinc (v := v6 + 1) (L1 := [(6, .int (v6 + 1)), (5, .int (v5 + 1)), (4, .int q1.1), (1, .int v1), (2, .int v2), (3, .int v3)]) C 5 ddA_classes_81 rfl rfl N (by decide) rfl ?_
        refine zz_goto (tgt := 46) C ddA_classes_84 rfl ?_
        refine zz_loc (L1 := [(1, .int v1), (2, .int v2), (3, .int v3), (4, .int q1.1), (5, .int (v5 + 1)), (6, .int (v6 + 1))]) [3, 4, 5, 2, 1, 0] rfl ?_
        exact hK _ _ _ _ h
set_option maxHeartbeats 2000000 in
theorem zLA_classes_46 {G : GXM} {X : CxM} (hG : GokM G) (C : CoM G X cA_classes "HomeFreed") (N : mLM X = 7) {d : Nat} (hD : dpM X = d) (hd : 1 ≤ d) {v1 : Int32} {v2 : Int32} {v3 : Int32} {q : (Int32 × Int32 × Mem)} : ∀ (f : Nat) (v4 : Int32) (v5 : Int32) (v6 : Int32) (M : Mem), LA_classes_46 f v1 v2 v3 v4 v5 v6 M = some q → (hx0 : ∀ y : Int32 × Int32 × Mem, q = y → ZM G X 87 [(2, .int v2), (4, .int y.1), (5, .int y.2.1)] [] y.2.2 0 0) → ZM G X 46 [(1, .int v1), (2, .int v2), (3, .int v3), (4, .int v4), (5, .int v5), (6, .int v6)] [] M 0 0 := by
  intro f
  induction f with
  | zero => intro v4 v5 v6 M h; cases h
  | succ f ih =>
    intro v4 v5 v6 M h hx0
    exact zBA_classes_46 hG C N hD hd (K := LA_classes_46 f) (q := q) (fun v4 v5 v6 M h => ih v4 v5 v6 M h hx0) hx0 h
set_option maxHeartbeats 2000000 in
theorem zBA_classes_25 {G : GXM} {X : CxM} (hG : GokM G) (C : CoM G X cA_classes "HomeFreed") (N : mLM X = 7) {d : Nat} (hD : dpM X = d) (hd : 1 ≤ d)  {q : Int32 × Mem} (E : EnM G X (some .int) (some (.int q.1)) q.2 0 0) {M : Mem} (h : BA_classes_25 M = some q) : ZM G X 25 [] [] M 0 0 := by
  unfold BA_classes_25 at h
  refine zz_iconst (v := (-1)) C ddA_classes_25 (by decide) ?_
  obtain rfl := Option.some.inj h
  exact zz_iret C E ddA_classes_26
set_option maxHeartbeats 2000000 in
theorem xA_classes {G : GXM} {l : Launch} (hG : GokM G) (d : Nat) (hd : 1 ≤ d) {v0 : Nat} {v1 : Int32} {v2 : Int32} {M : Mem} {q : Int32 × Mem} (h : fA_classes v0 v1 v2 M = some q) : ExM G l d 0 0 yA_classes cA_classes 7 (some .int) [.ref v0, .int v1, .int v2] M (some (.int q.1)) q.2 := by
  refine ex_of hG (by decide +kernel) (Nat.le_of_ble_eq_true rfl) ?_
  intro X hl C E N hD hn
  show ZM G X 0 [(0, .ref v0), (1, .int v1), (2, .int v2)] [] M 0 0
  unfold fA_classes at h
  refine zz_aload_n C 0 ddA_classes_0 rfl rfl ?_
  obtain ⟨h1, h⟩ := gdN h
  obtain ⟨h2, h⟩ := gdN h
  refine zz_getr C ddA_classes_1 fl_A_28 rfl h1 (of_decide_eq_true h2) ?_
  obtain ⟨h4, h⟩ := gdN h
  obtain ⟨q3, hq3, h⟩ := bindN h
  refine zz_callV0 (As := []) C ddA_classes_4 wd_566 my_U_areTold mv_U_areTold ⟨_, rfl, rfl⟩ (xU_areTold hG (d - 1) (by omega) hq3) (by omega) h4 rfl rfl (Nat.le_of_ble_eq_true rfl) ?_
  refine zz_if_eq (tgt := 25) C ddA_classes_7 rfl (fun hc => ?_) (fun hc => ?_)
  · replace h := iteT h hc
    refine zz_loc (L1 := []) [] rfl ?_
    exact zBA_classes_25 hG C N hD hd E h
  · replace h := iteF h hc
    refine zz_iload_n C 1 ddA_classes_10 rfl rfl ?_
    refine zz_if_lt (tgt := 25) C ddA_classes_11 rfl (fun hc => ?_) (fun hc => ?_)
    · replace h := iteT h hc
      refine zz_loc (L1 := []) [] rfl ?_
      exact zBA_classes_25 hG C N hD hd E h
    · replace h := iteF h hc
      refine zz_iload_n C 1 ddA_classes_14 rfl rfl ?_
      refine zz_bipush (v := 90) C ddA_classes_15 (by decide) ?_
      refine zz_icmp_gt (tgt := 25) C ddA_classes_17 rfl (fun hc => ?_) (fun hc => ?_)
      · replace h := iteT h hc
        refine zz_loc (L1 := []) [] rfl ?_
        exact zBA_classes_25 hG C N hD hd E h
      · replace h := iteF h hc
        refine zz_iload_n C 2 ddA_classes_20 rfl rfl ?_
        refine zz_iconst (v := (-1)) C ddA_classes_21 (by decide) ?_
        refine zz_icmp_ge (tgt := 27) C ddA_classes_22 rfl (fun hc => ?_) (fun hc => ?_)
        · replace h := iteT h hc
          refine zz_aload_n C 0 ddA_classes_27 rfl rfl ?_
          obtain ⟨h5, h⟩ := gdN h
          obtain ⟨h6, h⟩ := gdN h
          refine zz_getr C ddA_classes_28 fl_A_28 rfl h5 (of_decide_eq_true h6) ?_
          obtain ⟨h7, h⟩ := gdN h
          obtain ⟨h8, h⟩ := gdN h
          refine zz_getr C ddA_classes_31 fl_A_136 rfl h7 (of_decide_eq_true h8) ?_
          refine zz_iconst (v := 2) C ddA_classes_34 (by decide) ?_
          obtain ⟨h9, h⟩ := gdN h
          refine zz_iaload C ddA_classes_35 h9 ?_
          refine zz_istore_n (L1 := [(3, .int (giM q3.2 (grM q3.2 (grM q3.2 v0 2) 0) (Int32.toNatClampNeg 2))), (0, .ref v0), (1, .int v1), (2, .int v2)]) C ddA_classes_36 rfl N (by decide) rfl ?_
          refine zz_iconst (v := 1) C ddA_classes_37 (by decide) ?_
          refine zz_istore (L1 := [(4, .int 1), (3, .int (giM q3.2 (grM q3.2 (grM q3.2 v0 2) 0) (Int32.toNatClampNeg 2))), (0, .ref v0), (1, .int v1), (2, .int v2)]) C ddA_classes_38 N (by decide) rfl ?_
          refine zz_iconst (v := 1) C ddA_classes_40 (by decide) ?_
          refine zz_istore (L1 := [(5, .int 1), (4, .int 1), (3, .int (giM q3.2 (grM q3.2 (grM q3.2 v0 2) 0) (Int32.toNatClampNeg 2))), (0, .ref v0), (1, .int v1), (2, .int v2)]) C ddA_classes_41 N (by decide) rfl ?_
          refine zz_iconst (v := 0) C ddA_classes_43 (by decide) ?_
          refine zz_istore (L1 := [(6, .int 0), (5, .int 1), (4, .int 1), (3, .int (giM q3.2 (grM q3.2 (grM q3.2 v0 2) 0) (Int32.toNatClampNeg 2))), (0, .ref v0), (1, .int v1), (2, .int v2)]) C ddA_classes_44 N (by decide) rfl ?_
          refine zz_loc (L1 := [(1, .int v1), (2, .int v2), (3, .int (giM q3.2 (grM q3.2 (grM q3.2 v0 2) 0) (Int32.toNatClampNeg 2))), (4, .int 1), (5, .int 1), (6, .int 0)]) [5, 6, 3, 2, 1, 0] rfl ?_
          obtain ⟨q10, hq10, h⟩ := bindN h
          refine zLA_classes_46 hG C N hD hd 1000000 _ _ _ _ hq10 ?_
          · intro y11 eq10; replace eq10 := eq10.symm; subst eq10
            exact zBA_classes_87 hG C N hD hd E h
        · replace h := iteF h hc
          refine zz_loc (L1 := []) [] rfl ?_
          exact zBA_classes_25 hG C N hD hd E h
theorem ddA_would_0 : decode cA_would 0 = .ok (.aload_n 0, 1) := by decide +kernel
theorem ddA_would_1 : decode cA_would 1 = .ok (.getfield 28, 3) := by decide +kernel
theorem ddA_would_4 : decode cA_would 4 = .ok (.iload_n 2, 1) := by decide +kernel
theorem ddA_would_5 : decode cA_would 5 = .ok (.invokevirtual 220, 3) := by decide +kernel
theorem ddA_would_8 : decode cA_would 8 = .ok (.istore_n 3, 1) := by decide +kernel
theorem ddA_would_9 : decode cA_would 9 = .ok (.iload_n 3, 1) := by decide +kernel
theorem ddA_would_10 : decode cA_would 10 = .ok (.iconst (-1), 1) := by decide +kernel
theorem ddA_would_11 : decode cA_would 11 = .ok (.if_icmp .eq 14, 3) := by decide +kernel
theorem ddA_would_14 : decode cA_would 14 = .ok (.aload_n 0, 1) := by decide +kernel
theorem ddA_would_15 : decode cA_would 15 = .ok (.getfield 55, 3) := by decide +kernel
theorem ddA_would_18 : decode cA_would 18 = .ok (.iload_n 1, 1) := by decide +kernel
theorem ddA_would_19 : decode cA_would 19 = .ok (.invokevirtual 190, 3) := by decide +kernel
theorem ddA_would_22 : decode cA_would 22 = .ok (.ifCond .ne 5, 3) := by decide +kernel
theorem ddA_would_25 : decode cA_would 25 = .ok (.iconst (-1), 1) := by decide +kernel
theorem ddA_would_26 : decode cA_would 26 = .ok (.ireturn, 1) := by decide +kernel
theorem ddA_would_27 : decode cA_would 27 = .ok (.aload_n 0, 1) := by decide +kernel
theorem ddA_would_28 : decode cA_would 28 = .ok (.getfield 55, 3) := by decide +kernel
theorem ddA_would_31 : decode cA_would 31 = .ok (.iload_n 1, 1) := by decide +kernel
theorem ddA_would_32 : decode cA_would 32 = .ok (.aload_n 0, 1) := by decide +kernel
theorem ddA_would_33 : decode cA_would 33 = .ok (.getfield 55, 3) := by decide +kernel
theorem ddA_would_36 : decode cA_would 36 = .ok (.iload_n 1, 1) := by decide +kernel
theorem ddA_would_37 : decode cA_would 37 = .ok (.iload_n 3, 1) := by decide +kernel
theorem ddA_would_38 : decode cA_would 38 = .ok (.invokevirtual 223, 3) := by decide +kernel
theorem ddA_would_41 : decode cA_would 41 = .ok (.invokevirtual 317, 3) := by decide +kernel
theorem ddA_would_44 : decode cA_would 44 = .ok (.ireturn, 1) := by decide +kernel
set_option maxHeartbeats 2000000 in
theorem zBA_would_25 {G : GXM} {X : CxM} (hG : GokM G) (C : CoM G X cA_would "HomeFreed") (N : mLM X = 4) {d : Nat} (hD : dpM X = d) (hd : 2 ≤ d)  {q : Int32 × Mem} (E : EnM G X (some .int) (some (.int q.1)) q.2 0 0) {M : Mem} (h : BA_would_25 M = some q) : ZM G X 25 [] [] M 0 0 := by
  unfold BA_would_25 at h
  refine zz_iconst (v := (-1)) C ddA_would_25 (by decide) ?_
  obtain rfl := Option.some.inj h
  exact zz_iret C E ddA_would_26
set_option maxHeartbeats 2000000 in
theorem xA_would {G : GXM} {l : Launch} (hG : GokM G) (d : Nat) (hd : 2 ≤ d) {v0 : Nat} {v1 : Int32} {v2 : Int32} {M : Mem} {q : Int32 × Mem} (h : fA_would v0 v1 v2 M = some q) : ExM G l d 0 0 yA_would cA_would 4 (some .int) [.ref v0, .int v1, .int v2] M (some (.int q.1)) q.2 := by
  refine ex_of hG (by decide +kernel) (Nat.le_of_ble_eq_true rfl) ?_
  intro X hl C E N hD hn
  show ZM G X 0 [(0, .ref v0), (1, .int v1), (2, .int v2)] [] M 0 0
  unfold fA_would at h
  refine zz_aload_n C 0 ddA_would_0 rfl rfl ?_
  obtain ⟨h1, h⟩ := gdN h
  obtain ⟨h2, h⟩ := gdN h
  refine zz_getr C ddA_would_1 fl_A_28 rfl h1 (of_decide_eq_true h2) ?_
  refine zz_iload_n C 2 ddA_would_4 rfl rfl ?_
  obtain ⟨h4, h⟩ := gdN h
  obtain ⟨q3, hq3, h⟩ := bindN h
  refine zz_callV0 (As := [.int v2]) C ddA_would_5 wd_661 my_U_kindFor mv_U_kindFor ⟨_, rfl, rfl⟩ (xU_kindFor hG (d - 1) (by omega) hq3) (by omega) h4 rfl rfl (Nat.le_of_ble_eq_true rfl) ?_
  refine zz_istore_n (L1 := [(3, .int q3.1), (0, .ref v0), (1, .int v1), (2, .int v2)]) C ddA_would_8 rfl N (by decide) rfl ?_
  refine zz_iload_n C 0 ddA_would_9 rfl rfl ?_
  refine zz_iconst (v := (-1)) C ddA_would_10 (by decide) ?_
  refine zz_icmp_eq (tgt := 25) C ddA_would_11 rfl (fun hc => ?_) (fun hc => ?_)
  · replace h := iteT h hc
    refine zz_loc (L1 := []) [] rfl ?_
    exact zBA_would_25 hG C N hD hd E h
  · replace h := iteF h hc
    refine zz_aload_n C 1 ddA_would_14 rfl rfl ?_
    obtain ⟨h5, h⟩ := gdN h
    obtain ⟨h6, h⟩ := gdN h
    refine zz_getr C ddA_would_15 fl_A_55 rfl h5 (of_decide_eq_true h6) ?_
    refine zz_iload_n C 2 ddA_would_18 rfl rfl ?_
    obtain ⟨h8, h⟩ := gdN h
    obtain ⟨q7, hq7, h⟩ := bindN h
    refine zz_callV0 (As := [.int v1]) C ddA_would_19 wd_606 my_H_isLiving mv_H_isLiving ⟨_, rfl, rfl⟩ (xH_isLiving hG (d - 1) (by omega) hq7) (by omega) h8 rfl rfl (Nat.le_of_ble_eq_true rfl) ?_
    refine zz_if_ne (tgt := 27) C ddA_would_22 rfl (fun hc => ?_) (fun hc => ?_)
    · replace h := iteF h hc
      refine zz_aload_n C 1 ddA_would_27 rfl rfl ?_
      obtain ⟨h9, h⟩ := gdN h
      obtain ⟨h10, h⟩ := gdN h
      refine zz_getr C ddA_would_28 fl_A_55 rfl h9 (of_decide_eq_true h10) ?_
      refine zz_iload_n C 2 ddA_would_31 rfl rfl ?_
      refine zz_aload_n C 1 ddA_would_32 rfl rfl ?_
      refine zz_getr C ddA_would_33 fl_A_55 rfl h9 (of_decide_eq_true h10) ?_
      refine zz_iload_n C 2 ddA_would_36 rfl rfl ?_
      refine zz_iload_n C 0 ddA_would_37 rfl rfl ?_
      obtain ⟨h12, h⟩ := gdN h
      obtain ⟨q11, hq11, h⟩ := bindN h
      refine zz_callV0 (As := [.int v1, .int q3.1]) C ddA_would_38 wd_665 my_H_pageFor mv_H_pageFor ⟨_, rfl, rfl⟩ (xH_pageFor hG (d - 1) (by omega) hq11) (by omega) h12 rfl rfl (Nat.le_of_ble_eq_true rfl) ?_
      obtain ⟨h14, h⟩ := gdN h
      obtain ⟨q13, hq13, h⟩ := bindN h
      refine zz_callV0 (As := [.int v1, .int q11.1]) C ddA_would_41 wd_946 my_H_howFrom mv_H_howFrom ⟨_, rfl, rfl⟩ (xH_howFrom hG (d - 1) (by omega) hq13) (by omega) h14 rfl rfl (Nat.le_of_ble_eq_true rfl) ?_
      obtain rfl := Option.some.inj h
      exact zz_iret C E ddA_would_44
    · replace h := iteT h hc
      refine zz_loc (L1 := []) [] rfl ?_
      exact zBA_would_25 hG C N hD hd E h
theorem ddA_whereIs_0 : decode cA_whereIs 0 = .ok (.iload_n 0, 1) := by decide +kernel
theorem ddA_whereIs_1 : decode cA_whereIs 1 = .ok (.iconst (-1), 1) := by decide +kernel
theorem ddA_whereIs_2 : decode cA_whereIs 2 = .ok (.if_icmp .ne 5, 3) := by decide +kernel
theorem ddA_whereIs_5 : decode cA_whereIs 5 = .ok (.iconst 0, 1) := by decide +kernel
theorem ddA_whereIs_6 : decode cA_whereIs 6 = .ok (.ireturn, 1) := by decide +kernel
theorem ddA_whereIs_7 : decode cA_whereIs 7 = .ok (.iload_n 0, 1) := by decide +kernel
theorem ddA_whereIs_8 : decode cA_whereIs 8 = .ok (.bipush 48, 2) := by decide +kernel
theorem ddA_whereIs_10 : decode cA_whereIs 10 = .ok (.if_icmp .ge 11, 3) := by decide +kernel
theorem ddA_whereIs_13 : decode cA_whereIs 13 = .ok (.iconst 1, 1) := by decide +kernel
theorem ddA_whereIs_14 : decode cA_whereIs 14 = .ok (.iload_n 0, 1) := by decide +kernel
theorem ddA_whereIs_15 : decode cA_whereIs 15 = .ok (.iconst 3, 1) := by decide +kernel
theorem ddA_whereIs_16 : decode cA_whereIs 16 = .ok (.irem, 1) := by decide +kernel
theorem ddA_whereIs_17 : decode cA_whereIs 17 = .ok (.iadd, 1) := by decide +kernel
theorem ddA_whereIs_18 : decode cA_whereIs 18 = .ok (.goto 4, 3) := by decide +kernel
theorem ddA_whereIs_21 : decode cA_whereIs 21 = .ok (.iconst 4, 1) := by decide +kernel
theorem ddA_whereIs_22 : decode cA_whereIs 22 = .ok (.ireturn, 1) := by decide +kernel
set_option maxHeartbeats 2000000 in
theorem zBA_whereIs_22 {G : GXM} {X : CxM} (hG : GokM G) (C : CoM G X cA_whereIs "HomeFreed") (N : mLM X = 1) {d : Nat} (hD : dpM X = d) (hd : 0 ≤ d)  {q : Int32 × Mem} (E : EnM G X (some .int) (some (.int q.1)) q.2 0 0) {w0 : Int32} {M : Mem} (h : BA_whereIs_22 w0 M = some q) : ZM G X 22 [] [.int w0] M 0 0 := by
  unfold BA_whereIs_22 at h
  obtain rfl := Option.some.inj h
  exact zz_iret C E ddA_whereIs_22
set_option maxHeartbeats 2000000 in
theorem xA_whereIs {G : GXM} {l : Launch} (hG : GokM G) (d : Nat) (hd : 0 ≤ d) {v0 : Int32} {M : Mem} {q : Int32 × Mem} (h : fA_whereIs v0 M = some q) : ExM G l d 0 0 yA_whereIs cA_whereIs 1 (some .int) [.int v0] M (some (.int q.1)) q.2 := by
  refine ex_of hG (by decide +kernel) (Nat.le_of_ble_eq_true rfl) ?_
  intro X hl C E N hD hn
  show ZM G X 0 [(0, .int v0)] [] M 0 0
  unfold fA_whereIs at h
  refine zz_iload_n C 0 ddA_whereIs_0 rfl rfl ?_
  refine zz_iconst (v := (-1)) C ddA_whereIs_1 (by decide) ?_
  refine zz_icmp_ne (tgt := 7) C ddA_whereIs_2 rfl (fun hc => ?_) (fun hc => ?_)
  · replace h := iteF h hc
    refine zz_iload_n C 0 ddA_whereIs_7 rfl rfl ?_
    refine zz_bipush (v := 48) C ddA_whereIs_8 (by decide) ?_
    refine zz_icmp_ge (tgt := 21) C ddA_whereIs_10 rfl (fun hc => ?_) (fun hc => ?_)
    · replace h := iteT h hc
      refine zz_iconst (v := 4) C ddA_whereIs_21 (by decide) ?_
      refine zz_loc (L1 := []) [] rfl ?_
      exact zBA_whereIs_22 hG C N hD hd E h
    · replace h := iteF h hc
      refine zz_iconst (v := 1) C ddA_whereIs_13 (by decide) ?_
      refine zz_iload_n C 0 ddA_whereIs_14 rfl rfl ?_
      refine zz_iconst (v := 3) C ddA_whereIs_15 (by decide) ?_
      refine zz_irem C ddA_whereIs_16 (by decide) ?_
      refine zz_iadd C ddA_whereIs_17 ?_
      refine zz_goto (tgt := 22) C ddA_whereIs_18 rfl ?_
      refine zz_loc (L1 := []) [] rfl ?_
      exact zBA_whereIs_22 hG C N hD hd E h
  · replace h := iteT h hc
    refine zz_iconst (v := 0) C ddA_whereIs_5 (by decide) ?_
    obtain rfl := Option.some.inj h
    exact zz_iret C E ddA_whereIs_6
theorem ddC_placeOf_0 : decode cC_placeOf 0 = .ok (.iload_n 1, 1) := by decide +kernel
theorem ddC_placeOf_1 : decode cC_placeOf 1 = .ok (.ifCond .lt 22, 3) := by decide +kernel
theorem ddC_placeOf_4 : decode cC_placeOf 4 = .ok (.iload_n 1, 1) := by decide +kernel
theorem ddC_placeOf_5 : decode cC_placeOf 5 = .ok (.aload_n 0, 1) := by decide +kernel
theorem ddC_placeOf_6 : decode cC_placeOf 6 = .ok (.getfield 18, 3) := by decide +kernel
theorem ddC_placeOf_9 : decode cC_placeOf 9 = .ok (.arraylength, 1) := by decide +kernel
theorem ddC_placeOf_10 : decode cC_placeOf 10 = .ok (.if_icmp .ge 13, 3) := by decide +kernel
theorem ddC_placeOf_13 : decode cC_placeOf 13 = .ok (.aload_n 0, 1) := by decide +kernel
theorem ddC_placeOf_14 : decode cC_placeOf 14 = .ok (.getfield 21, 3) := by decide +kernel
theorem ddC_placeOf_17 : decode cC_placeOf 17 = .ok (.iload_n 1, 1) := by decide +kernel
theorem ddC_placeOf_18 : decode cC_placeOf 18 = .ok (.iaload, 1) := by decide +kernel
theorem ddC_placeOf_19 : decode cC_placeOf 19 = .ok (.iconst (-1), 1) := by decide +kernel
theorem ddC_placeOf_20 : decode cC_placeOf 20 = .ok (.if_icmp .ne 5, 3) := by decide +kernel
theorem ddC_placeOf_23 : decode cC_placeOf 23 = .ok (.iconst (-1), 1) := by decide +kernel
theorem ddC_placeOf_24 : decode cC_placeOf 24 = .ok (.ireturn, 1) := by decide +kernel
theorem ddC_placeOf_25 : decode cC_placeOf 25 = .ok (.iconst 0, 1) := by decide +kernel
theorem ddC_placeOf_26 : decode cC_placeOf 26 = .ok (.istore_n 2, 1) := by decide +kernel
theorem ddC_placeOf_27 : decode cC_placeOf 27 = .ok (.aload_n 0, 1) := by decide +kernel
theorem ddC_placeOf_28 : decode cC_placeOf 28 = .ok (.getfield 9, 3) := by decide +kernel
theorem ddC_placeOf_31 : decode cC_placeOf 31 = .ok (.aload_n 0, 1) := by decide +kernel
theorem ddC_placeOf_32 : decode cC_placeOf 32 = .ok (.getfield 21, 3) := by decide +kernel
theorem ddC_placeOf_35 : decode cC_placeOf 35 = .ok (.iload_n 1, 1) := by decide +kernel
theorem ddC_placeOf_36 : decode cC_placeOf 36 = .ok (.iaload, 1) := by decide +kernel
theorem ddC_placeOf_37 : decode cC_placeOf 37 = .ok (.iaload, 1) := by decide +kernel
theorem ddC_placeOf_38 : decode cC_placeOf 38 = .ok (.istore_n 3, 1) := by decide +kernel
theorem ddC_placeOf_39 : decode cC_placeOf 39 = .ok (.iload_n 2, 1) := by decide +kernel
theorem ddC_placeOf_40 : decode cC_placeOf 40 = .ok (.aload_n 0, 1) := by decide +kernel
theorem ddC_placeOf_41 : decode cC_placeOf 41 = .ok (.getfield 18, 3) := by decide +kernel
theorem ddC_placeOf_44 : decode cC_placeOf 44 = .ok (.arraylength, 1) := by decide +kernel
theorem ddC_placeOf_45 : decode cC_placeOf 45 = .ok (.if_icmp .ge 26, 3) := by decide +kernel
theorem ddC_placeOf_48 : decode cC_placeOf 48 = .ok (.iload_n 3, 1) := by decide +kernel
theorem ddC_placeOf_49 : decode cC_placeOf 49 = .ok (.iconst (-1), 1) := by decide +kernel
theorem ddC_placeOf_50 : decode cC_placeOf 50 = .ok (.if_icmp .eq 21, 3) := by decide +kernel
theorem ddC_placeOf_53 : decode cC_placeOf 53 = .ok (.iload_n 3, 1) := by decide +kernel
theorem ddC_placeOf_54 : decode cC_placeOf 54 = .ok (.iload_n 1, 1) := by decide +kernel
theorem ddC_placeOf_55 : decode cC_placeOf 55 = .ok (.if_icmp .eq 16, 3) := by decide +kernel
theorem ddC_placeOf_58 : decode cC_placeOf 58 = .ok (.iinc 2 1, 3) := by decide +kernel
theorem ddC_placeOf_61 : decode cC_placeOf 61 = .ok (.aload_n 0, 1) := by decide +kernel
theorem ddC_placeOf_62 : decode cC_placeOf 62 = .ok (.getfield 18, 3) := by decide +kernel
theorem ddC_placeOf_65 : decode cC_placeOf 65 = .ok (.iload_n 3, 1) := by decide +kernel
theorem ddC_placeOf_66 : decode cC_placeOf 66 = .ok (.iaload, 1) := by decide +kernel
theorem ddC_placeOf_67 : decode cC_placeOf 67 = .ok (.istore_n 3, 1) := by decide +kernel
theorem ddC_placeOf_68 : decode cC_placeOf 68 = .ok (.goto (-29), 3) := by decide +kernel
theorem ddC_placeOf_71 : decode cC_placeOf 71 = .ok (.iload_n 2, 1) := by decide +kernel
theorem ddC_placeOf_72 : decode cC_placeOf 72 = .ok (.ireturn, 1) := by decide +kernel
set_option maxHeartbeats 2000000 in
theorem zBC_placeOf_71 {G : GXM} {X : CxM} (hG : GokM G) (C : CoM G X cC_placeOf "HomeFreed$Chains") (N : mLM X = 4) {d : Nat} (hD : dpM X = d) (hd : 0 ≤ d)  {q : Int32 × Mem} (E : EnM G X (some .int) (some (.int q.1)) q.2 0 0) {v2 : Int32} {M : Mem} (h : BC_placeOf_71 v2 M = some q) : ZM G X 71 [(2, .int v2)] [] M 0 0 := by
  unfold BC_placeOf_71 at h
  refine zz_iload_n C 0 ddC_placeOf_71 rfl rfl ?_
  obtain rfl := Option.some.inj h
  exact zz_iret C E ddC_placeOf_72
set_option maxHeartbeats 2000000 in
theorem zBC_placeOf_39 {G : GXM} {X : CxM} (hG : GokM G) (C : CoM G X cC_placeOf "HomeFreed$Chains") (N : mLM X = 4) {d : Nat} (hD : dpM X = d) (hd : 0 ≤ d) {v0 : Nat} {v1 : Int32} {K : Nat → Int32 → Int32 → Int32 → Mem → Option ((Int32 × Mem))} {q : (Int32 × Mem)} (hK : ∀ (v2 : Int32) (v3 : Int32) (M : Mem), K v0 v1 v2 v3 M = some q → ZM G X 39 [(0, .ref v0), (1, .int v1), (2, .int v2), (3, .int v3)] [] M 0 0) (hx0 : ∀ y : Int32 × Mem, q = y → ZM G X 71 [(2, .int y.1)] [] y.2 0 0) {v2 : Int32} {v3 : Int32} {M : Mem} (h : BC_placeOf_39 K v0 v1 v2 v3 M = some q) : ZM G X 39 [(0, .ref v0), (1, .int v1), (2, .int v2), (3, .int v3)] [] M 0 0 := by
  unfold BC_placeOf_39 at h
  refine zz_iload_n C 2 ddC_placeOf_39 rfl rfl ?_
  refine zz_aload_n C 0 ddC_placeOf_40 rfl rfl ?_
  obtain ⟨h1, h⟩ := gdN h
  obtain ⟨h2, h⟩ := gdN h
  refine zz_getr C ddC_placeOf_41 fl_C_18 rfl h1 (of_decide_eq_true h2) ?_
  obtain ⟨h3, h⟩ := gdN h
  refine zz_alenI C ddC_placeOf_44 h3 ?_
  refine zz_icmp_ge (tgt := 71) C ddC_placeOf_45 rfl (fun hc => ?_) (fun hc => ?_)
  · replace h := iteT h hc
    refine zz_loc (L1 := [(2, .int v2)]) [2] rfl ?_
    exact hx0 _ (Option.some.inj h).symm
  · replace h := iteF h hc
    refine zz_iload_n C 3 ddC_placeOf_48 rfl rfl ?_
    refine zz_iconst (v := (-1)) C ddC_placeOf_49 (by decide) ?_
    refine zz_icmp_eq (tgt := 71) C ddC_placeOf_50 rfl (fun hc => ?_) (fun hc => ?_)
    · replace h := iteT h hc
      refine zz_loc (L1 := [(2, .int v2)]) [2] rfl ?_
      exact hx0 _ (Option.some.inj h).symm
    · replace h := iteF h hc
      refine zz_iload_n C 3 ddC_placeOf_53 rfl rfl ?_
      refine zz_iload_n C 1 ddC_placeOf_54 rfl rfl ?_
      refine zz_icmp_eq (tgt := 71) C ddC_placeOf_55 rfl (fun hc => ?_) (fun hc => ?_)
      · replace h := iteT h hc
        refine zz_loc (L1 := [(2, .int v2)]) [2] rfl ?_
        exact hx0 _ (Option.some.inj h).symm
      · replace h := iteF h hc
        refine zz_iinc (v := v2 + 1) (L1 := [(2, .int (v2 + 1)), (0, .ref v0), (1, .int v1), (3, .int v3)]) C 2 ddC_placeOf_58 rfl rfl N (by decide) rfl ?_
        refine zz_aload_n C 1 ddC_placeOf_61 rfl rfl ?_
        refine zz_getr C ddC_placeOf_62 fl_C_18 rfl h1 (of_decide_eq_true h2) ?_
        refine zz_iload_n C 3 ddC_placeOf_65 rfl rfl ?_
        obtain ⟨h4, h⟩ := gdN h
        refine zz_iaload C ddC_placeOf_66 h4 ?_
        refine zz_istore_n (L1 := [(3, .int (giM M (grM M v0 2) (Int32.toNatClampNeg v3))), (2, .int (v2 + 1)), (0, .ref v0), (1, .int v1)]) C ddC_placeOf_67 rfl N (by decide) rfl ?_
        refine zz_goto (tgt := 39) C ddC_placeOf_68 rfl ?_
        refine zz_loc (L1 := [(0, .ref v0), (1, .int v1), (2, .int (v2 + 1)), (3, .int (giM M (grM M v0 2) (Int32.toNatClampNeg v3)))]) [2, 3, 1, 0] rfl ?_
        exact hK _ _ _ h
set_option maxHeartbeats 2000000 in
theorem zLC_placeOf_39 {G : GXM} {X : CxM} (hG : GokM G) (C : CoM G X cC_placeOf "HomeFreed$Chains") (N : mLM X = 4) {d : Nat} (hD : dpM X = d) (hd : 0 ≤ d) {v0 : Nat} {v1 : Int32} {q : (Int32 × Mem)} : ∀ (f : Nat) (v2 : Int32) (v3 : Int32) (M : Mem), LC_placeOf_39 f v0 v1 v2 v3 M = some q → (hx0 : ∀ y : Int32 × Mem, q = y → ZM G X 71 [(2, .int y.1)] [] y.2 0 0) → ZM G X 39 [(0, .ref v0), (1, .int v1), (2, .int v2), (3, .int v3)] [] M 0 0 := by
  intro f
  induction f with
  | zero => intro v2 v3 M h; cases h
  | succ f ih =>
    intro v2 v3 M h hx0
    exact zBC_placeOf_39 hG C N hD hd (K := LC_placeOf_39 f) (q := q) (fun v2 v3 M h => ih v2 v3 M h hx0) hx0 h
set_option maxHeartbeats 2000000 in
theorem zBC_placeOf_23 {G : GXM} {X : CxM} (hG : GokM G) (C : CoM G X cC_placeOf "HomeFreed$Chains") (N : mLM X = 4) {d : Nat} (hD : dpM X = d) (hd : 0 ≤ d)  {q : Int32 × Mem} (E : EnM G X (some .int) (some (.int q.1)) q.2 0 0) {M : Mem} (h : BC_placeOf_23 M = some q) : ZM G X 23 [] [] M 0 0 := by
  unfold BC_placeOf_23 at h
  refine zz_iconst (v := (-1)) C ddC_placeOf_23 (by decide) ?_
  obtain rfl := Option.some.inj h
  exact zz_iret C E ddC_placeOf_24
set_option maxHeartbeats 2000000 in
theorem xC_placeOf {G : GXM} {l : Launch} (hG : GokM G) (d : Nat) (hd : 0 ≤ d) {v0 : Nat} {v1 : Int32} {M : Mem} {q : Int32 × Mem} (h : fC_placeOf v0 v1 M = some q) : ExM G l d 0 0 yC_placeOf cC_placeOf 4 (some .int) [.ref v0, .int v1] M (some (.int q.1)) q.2 := by
  refine ex_of hG (by decide +kernel) (Nat.le_of_ble_eq_true rfl) ?_
  intro X hl C E N hD hn
  show ZM G X 0 [(0, .ref v0), (1, .int v1)] [] M 0 0
  unfold fC_placeOf at h
  refine zz_iload_n C 1 ddC_placeOf_0 rfl rfl ?_
  refine zz_if_lt (tgt := 23) C ddC_placeOf_1 rfl (fun hc => ?_) (fun hc => ?_)
  · replace h := iteT h hc
    refine zz_loc (L1 := []) [] rfl ?_
    exact zBC_placeOf_23 hG C N hD hd E h
  · replace h := iteF h hc
    refine zz_iload_n C 1 ddC_placeOf_4 rfl rfl ?_
    refine zz_aload_n C 0 ddC_placeOf_5 rfl rfl ?_
    obtain ⟨h1, h⟩ := gdN h
    obtain ⟨h2, h⟩ := gdN h
    refine zz_getr C ddC_placeOf_6 fl_C_18 rfl h1 (of_decide_eq_true h2) ?_
    obtain ⟨h3, h⟩ := gdN h
    refine zz_alenI C ddC_placeOf_9 h3 ?_
    refine zz_icmp_ge (tgt := 23) C ddC_placeOf_10 rfl (fun hc => ?_) (fun hc => ?_)
    · replace h := iteT h hc
      refine zz_loc (L1 := []) [] rfl ?_
      exact zBC_placeOf_23 hG C N hD hd E h
    · replace h := iteF h hc
      refine zz_aload_n C 0 ddC_placeOf_13 rfl rfl ?_
      obtain ⟨h4, h⟩ := gdN h
      refine zz_getr C ddC_placeOf_14 fl_C_21 rfl h1 (of_decide_eq_true h4) ?_
      refine zz_iload_n C 1 ddC_placeOf_17 rfl rfl ?_
      obtain ⟨h5, h⟩ := gdN h
      refine zz_iaload C ddC_placeOf_18 h5 ?_
      refine zz_iconst (v := (-1)) C ddC_placeOf_19 (by decide) ?_
      refine zz_icmp_ne (tgt := 25) C ddC_placeOf_20 rfl (fun hc => ?_) (fun hc => ?_)
      · replace h := iteF h hc
        refine zz_iconst (v := 0) C ddC_placeOf_25 (by decide) ?_
        refine zz_istore_n (L1 := [(2, .int 0), (0, .ref v0), (1, .int v1)]) C ddC_placeOf_26 rfl N (by decide) rfl ?_
        refine zz_aload_n C 1 ddC_placeOf_27 rfl rfl ?_
        obtain ⟨h6, h⟩ := gdN h
        refine zz_getr C ddC_placeOf_28 fl_C_9 rfl h1 (of_decide_eq_true h6) ?_
        refine zz_aload_n C 1 ddC_placeOf_31 rfl rfl ?_
        refine zz_getr C ddC_placeOf_32 fl_C_21 rfl h1 (of_decide_eq_true h4) ?_
        refine zz_iload_n C 2 ddC_placeOf_35 rfl rfl ?_
        refine zz_iaload C ddC_placeOf_36 h5 ?_
        obtain ⟨h7, h⟩ := gdN h
        refine zz_iaload C ddC_placeOf_37 h7 ?_
        refine zz_istore_n (L1 := [(3, .int (giM M (grM M v0 0) (Int32.toNatClampNeg (giM M (grM M v0 3) (Int32.toNatClampNeg v1))))), (2, .int 0), (0, .ref v0), (1, .int v1)]) C ddC_placeOf_38 rfl N (by decide) rfl ?_
        refine zz_loc (L1 := [(0, .ref v0), (1, .int v1), (2, .int 0), (3, .int (giM M (grM M v0 0) (Int32.toNatClampNeg (giM M (grM M v0 3) (Int32.toNatClampNeg v1)))))]) [2, 3, 1, 0] rfl ?_
        obtain ⟨q8, hq8, h⟩ := bindN h
        refine zLC_placeOf_39 hG C N hD hd 1000000 _ _ _ hq8 ?_
        · intro y9 eq8; replace eq8 := eq8.symm; subst eq8
          exact zBC_placeOf_71 hG C N hD hd E h
      · replace h := iteT h hc
        refine zz_loc (L1 := []) [] rfl ?_
        exact zBC_placeOf_23 hG C N hD hd E h
theorem ddA_where_0 : decode cA_where 0 = .ok (.aload_n 0, 1) := by decide +kernel
theorem ddA_where_1 : decode cA_where 1 = .ok (.getfield 55, 3) := by decide +kernel
theorem ddA_where_4 : decode cA_where 4 = .ok (.iload_n 1, 1) := by decide +kernel
theorem ddA_where_5 : decode cA_where 5 = .ok (.invokevirtual 211, 3) := by decide +kernel
theorem ddA_where_8 : decode cA_where 8 = .ok (.ifCond .ne 5, 3) := by decide +kernel
theorem ddA_where_11 : decode cA_where 11 = .ok (.iconst (-1), 1) := by decide +kernel
theorem ddA_where_12 : decode cA_where 12 = .ok (.ireturn, 1) := by decide +kernel
theorem ddA_where_13 : decode cA_where 13 = .ok (.aload_n 0, 1) := by decide +kernel
theorem ddA_where_14 : decode cA_where 14 = .ok (.getfield 55, 3) := by decide +kernel
theorem ddA_where_17 : decode cA_where 17 = .ok (.iload_n 1, 1) := by decide +kernel
theorem ddA_where_18 : decode cA_where 18 = .ok (.invokevirtual 320, 3) := by decide +kernel
theorem ddA_where_21 : decode cA_where 21 = .ok (.istore_n 3, 1) := by decide +kernel
theorem ddA_where_22 : decode cA_where 22 = .ok (.aload_n 0, 1) := by decide +kernel
theorem ddA_where_23 : decode cA_where 23 = .ok (.getfield 55, 3) := by decide +kernel
theorem ddA_where_26 : decode cA_where 26 = .ok (.getfield 172, 3) := by decide +kernel
theorem ddA_where_29 : decode cA_where 29 = .ok (.getfield 323, 3) := by decide +kernel
theorem ddA_where_32 : decode cA_where 32 = .ok (.iload_n 3, 1) := by decide +kernel
theorem ddA_where_33 : decode cA_where 33 = .ok (.iaload, 1) := by decide +kernel
theorem ddA_where_34 : decode cA_where 34 = .ok (.istore 4, 2) := by decide +kernel
theorem ddA_where_36 : decode cA_where 36 = .ok (.iload_n 2, 1) := by decide +kernel
theorem ddA_where_37 : decode cA_where 37 = .ok (.tableswitch 104 0 3 #[31, 37, 49, 69], 31) := by decide +kernel
theorem ddA_where_68 : decode cA_where 68 = .ok (.iload 4, 2) := by decide +kernel
theorem ddA_where_70 : decode cA_where 70 = .ok (.invokestatic 326, 3) := by decide +kernel
theorem ddA_where_73 : decode cA_where 73 = .ok (.ireturn, 1) := by decide +kernel
theorem ddA_where_74 : decode cA_where 74 = .ok (.aload_n 0, 1) := by decide +kernel
theorem ddA_where_75 : decode cA_where 75 = .ok (.getfield 55, 3) := by decide +kernel
theorem ddA_where_78 : decode cA_where 78 = .ok (.getfield 172, 3) := by decide +kernel
theorem ddA_where_81 : decode cA_where 81 = .ok (.iload_n 3, 1) := by decide +kernel
theorem ddA_where_82 : decode cA_where 82 = .ok (.invokevirtual 329, 3) := by decide +kernel
theorem ddA_where_85 : decode cA_where 85 = .ok (.ireturn, 1) := by decide +kernel
theorem ddA_where_86 : decode cA_where 86 = .ok (.iload 4, 2) := by decide +kernel
theorem ddA_where_88 : decode cA_where 88 = .ok (.bipush 48, 2) := by decide +kernel
theorem ddA_where_90 : decode cA_where 90 = .ok (.if_icmp .ge 7, 3) := by decide +kernel
theorem ddA_where_93 : decode cA_where 93 = .ok (.iconst (-1), 1) := by decide +kernel
theorem ddA_where_94 : decode cA_where 94 = .ok (.goto 11, 3) := by decide +kernel
theorem ddA_where_97 : decode cA_where 97 = .ok (.iload 4, 2) := by decide +kernel
theorem ddA_where_99 : decode cA_where 99 = .ok (.bipush 48, 2) := by decide +kernel
theorem ddA_where_101 : decode cA_where 101 = .ok (.isub, 1) := by decide +kernel
theorem ddA_where_102 : decode cA_where 102 = .ok (.bipush 16, 2) := by decide +kernel
theorem ddA_where_104 : decode cA_where 104 = .ok (.idiv, 1) := by decide +kernel
theorem ddA_where_105 : decode cA_where 105 = .ok (.ireturn, 1) := by decide +kernel
theorem ddA_where_106 : decode cA_where 106 = .ok (.iload 4, 2) := by decide +kernel
theorem ddA_where_108 : decode cA_where 108 = .ok (.bipush 48, 2) := by decide +kernel
theorem ddA_where_110 : decode cA_where 110 = .ok (.if_icmp .ge 7, 3) := by decide +kernel
theorem ddA_where_113 : decode cA_where 113 = .ok (.iconst (-1), 1) := by decide +kernel
theorem ddA_where_114 : decode cA_where 114 = .ok (.goto 26, 3) := by decide +kernel
theorem ddA_where_117 : decode cA_where 117 = .ok (.aload_n 0, 1) := by decide +kernel
theorem ddA_where_118 : decode cA_where 118 = .ok (.getfield 28, 3) := by decide +kernel
theorem ddA_where_121 : decode cA_where 121 = .ok (.getfield 136, 3) := by decide +kernel
theorem ddA_where_124 : decode cA_where 124 = .ok (.iconst 3, 1) := by decide +kernel
theorem ddA_where_125 : decode cA_where 125 = .ok (.iaload, 1) := by decide +kernel
theorem ddA_where_126 : decode cA_where 126 = .ok (.aload_n 0, 1) := by decide +kernel
theorem ddA_where_127 : decode cA_where 127 = .ok (.getfield 55, 3) := by decide +kernel
theorem ddA_where_130 : decode cA_where 130 = .ok (.getfield 172, 3) := by decide +kernel
theorem ddA_where_133 : decode cA_where 133 = .ok (.getfield 332, 3) := by decide +kernel
theorem ddA_where_136 : decode cA_where 136 = .ok (.iload 4, 2) := by decide +kernel
theorem ddA_where_138 : decode cA_where 138 = .ok (.iaload, 1) := by decide +kernel
theorem ddA_where_139 : decode cA_where 139 = .ok (.isub, 1) := by decide +kernel
theorem ddA_where_140 : decode cA_where 140 = .ok (.ireturn, 1) := by decide +kernel
theorem ddA_where_141 : decode cA_where 141 = .ok (.iconst (-1), 1) := by decide +kernel
theorem ddA_where_142 : decode cA_where 142 = .ok (.ireturn, 1) := by decide +kernel
set_option maxHeartbeats 2000000 in
theorem zBA_where_140 {G : GXM} {X : CxM} (hG : GokM G) (C : CoM G X cA_where "HomeFreed") (N : mLM X = 5) {d : Nat} (hD : dpM X = d) (hd : 1 ≤ d)  {q : Int32 × Mem} (E : EnM G X (some .int) (some (.int q.1)) q.2 0 0) {w0 : Int32} {M : Mem} (h : BA_where_140 w0 M = some q) : ZM G X 140 [] [.int w0] M 0 0 := by
  unfold BA_where_140 at h
  obtain rfl := Option.some.inj h
  exact zz_iret C E ddA_where_140
set_option maxHeartbeats 2000000 in
theorem zBA_where_105 {G : GXM} {X : CxM} (hG : GokM G) (C : CoM G X cA_where "HomeFreed") (N : mLM X = 5) {d : Nat} (hD : dpM X = d) (hd : 1 ≤ d)  {q : Int32 × Mem} (E : EnM G X (some .int) (some (.int q.1)) q.2 0 0) {w0 : Int32} {M : Mem} (h : BA_where_105 w0 M = some q) : ZM G X 105 [] [.int w0] M 0 0 := by
  unfold BA_where_105 at h
  obtain rfl := Option.some.inj h
  exact zz_iret C E ddA_where_105
set_option maxHeartbeats 2000000 in
theorem xA_where {G : GXM} {l : Launch} (hG : GokM G) (d : Nat) (hd : 1 ≤ d) {v0 : Nat} {v1 : Int32} {v2 : Int32} {M : Mem} {q : Int32 × Mem} (h : fA_where v0 v1 v2 M = some q) : ExM G l d 0 0 yA_where cA_where 5 (some .int) [.ref v0, .int v1, .int v2] M (some (.int q.1)) q.2 := by
  refine ex_of hG (by decide +kernel) (Nat.le_of_ble_eq_true rfl) ?_
  intro X hl C E N hD hn
  show ZM G X 0 [(0, .ref v0), (1, .int v1), (2, .int v2)] [] M 0 0
  unfold fA_where at h
  refine zz_aload_n C 0 ddA_where_0 rfl rfl ?_
  obtain ⟨h1, h⟩ := gdN h
  obtain ⟨h2, h⟩ := gdN h
  refine zz_getr C ddA_where_1 fl_A_55 rfl h1 (of_decide_eq_true h2) ?_
  refine zz_iload_n C 1 ddA_where_4 rfl rfl ?_
  obtain ⟨h4, h⟩ := gdN h
  obtain ⟨q3, hq3, h⟩ := bindN h
  refine zz_callV0 (As := [.int v1]) C ddA_where_5 wd_640 my_H_isBlock mv_H_isBlock ⟨_, rfl, rfl⟩ (xH_isBlock hG (d - 1) (by omega) hq3) (by omega) h4 rfl rfl (Nat.le_of_ble_eq_true rfl) ?_
  refine zz_if_ne (tgt := 13) C ddA_where_8 rfl (fun hc => ?_) (fun hc => ?_)
  · replace h := iteF h hc
    refine zz_aload_n C 0 ddA_where_13 rfl rfl ?_
    obtain ⟨h5, h⟩ := gdN h
    obtain ⟨h6, h⟩ := gdN h
    refine zz_getr C ddA_where_14 fl_A_55 rfl h5 (of_decide_eq_true h6) ?_
    refine zz_iload_n C 1 ddA_where_17 rfl rfl ?_
    obtain ⟨h8, h⟩ := gdN h
    obtain ⟨q7, hq7, h⟩ := bindN h
    refine zz_callV0 (As := [.int v1]) C ddA_where_18 wd_951 my_H_thingOf mv_H_thingOf ⟨_, rfl, rfl⟩ (xH_thingOf hG (d - 1) (by omega) hq7) (by omega) h8 rfl rfl (Nat.le_of_ble_eq_true rfl) ?_
    refine zz_istore_n (L1 := [(3, .int q7.1), (0, .ref v0), (1, .int v1), (2, .int v2)]) C ddA_where_21 rfl N (by decide) rfl ?_
    refine zz_aload_n C 1 ddA_where_22 rfl rfl ?_
    obtain ⟨h9, h⟩ := gdN h
    obtain ⟨h10, h⟩ := gdN h
    refine zz_getr C ddA_where_23 fl_A_55 rfl h9 (of_decide_eq_true h10) ?_
    obtain ⟨h11, h⟩ := gdN h
    obtain ⟨h12, h⟩ := gdN h
    refine zz_getr C ddA_where_26 fl_A_172 rfl h11 (of_decide_eq_true h12) ?_
    obtain ⟨h13, h⟩ := gdN h
    obtain ⟨h14, h⟩ := gdN h
    refine zz_getr C ddA_where_29 fl_A_323 rfl h13 (of_decide_eq_true h14) ?_
    refine zz_iload_n C 0 ddA_where_32 rfl rfl ?_
    obtain ⟨h15, h⟩ := gdN h
    refine zz_iaload C ddA_where_33 h15 ?_
    refine zz_istore (L1 := [(4, .int (giM q7.2 (grM q7.2 (grM q7.2 (grM q7.2 v0 7) 5) 3) (Int32.toNatClampNeg q7.1))), (3, .int q7.1), (0, .ref v0), (1, .int v1), (2, .int v2)]) C ddA_where_34 N (by decide) rfl ?_
    refine zz_iload_n C 4 ddA_where_36 rfl rfl ?_
    by_cases hs37_0 : v2 = 0
    · replace h := iteT h hs37_0
      rw [hs37_0]
      refine zz_tableIn (tgt := 68) C ddA_where_37 (by decide) (by decide) rfl rfl ?_
      refine zz_iload C 0 ddA_where_68 rfl ?_
      obtain ⟨q16, hq16, h⟩ := bindN h
      refine zz_callS0 (As := [.int (giM q7.2 (grM q7.2 (grM q7.2 (grM q7.2 v0 7) 5) 3) (Int32.toNatClampNeg q7.1))]) C ddA_where_70 wd_952 my_A_whereIs mv_A_whereIs (xA_whereIs hG (d - 1) (by omega) hq16) (by omega) rfl rfl (Nat.le_of_ble_eq_true rfl) ?_
      obtain rfl := Option.some.inj h
      exact zz_iret C E ddA_where_73
    replace h := iteF h hs37_0
    by_cases hs37_1 : v2 = 1
    · replace h := iteT h hs37_1
      rw [hs37_1]
      refine zz_tableIn (tgt := 74) C ddA_where_37 (by decide) (by decide) rfl rfl ?_
      refine zz_aload_n C 2 ddA_where_74 rfl rfl ?_
      refine zz_getr C ddA_where_75 fl_A_55 rfl h9 (of_decide_eq_true h10) ?_
      refine zz_getr C ddA_where_78 fl_A_172 rfl h11 (of_decide_eq_true h12) ?_
      refine zz_iload_n C 1 ddA_where_81 rfl rfl ?_
      obtain ⟨q17, hq17, h⟩ := bindN h
      refine zz_callV0 (As := [.int q7.1]) C ddA_where_82 wd_955 my_C_placeOf mv_C_placeOf ⟨_, rfl, rfl⟩ (xC_placeOf hG (d - 1) (by omega) hq17) (by omega) h13 rfl rfl (Nat.le_of_ble_eq_true rfl) ?_
      obtain rfl := Option.some.inj h
      exact zz_iret C E ddA_where_85
    replace h := iteF h hs37_1
    by_cases hs37_2 : v2 = 2
    · replace h := iteT h hs37_2
      rw [hs37_2]
      refine zz_tableIn (tgt := 86) C ddA_where_37 (by decide) (by decide) rfl rfl ?_
      refine zz_iload C 0 ddA_where_86 rfl ?_
      refine zz_bipush (v := 48) C ddA_where_88 (by decide) ?_
      refine zz_icmp_ge (tgt := 97) C ddA_where_90 rfl (fun hc => ?_) (fun hc => ?_)
      · replace h := iteT h hc
        refine zz_iload C 0 ddA_where_97 rfl ?_
        refine zz_bipush (v := 48) C ddA_where_99 (by decide) ?_
        refine zz_isub C ddA_where_101 ?_
        refine zz_bipush (v := 16) C ddA_where_102 (by decide) ?_
        refine zz_idiv C ddA_where_104 (by decide) ?_
        refine zz_loc (L1 := []) [] rfl ?_
        exact zBA_where_105 hG C N hD hd E h
      · replace h := iteF h hc
        refine zz_iconst (v := (-1)) C ddA_where_93 (by decide) ?_
        refine zz_goto (tgt := 105) C ddA_where_94 rfl ?_
        refine zz_loc (L1 := []) [] rfl ?_
        exact zBA_where_105 hG C N hD hd E h
    replace h := iteF h hs37_2
    by_cases hs37_3 : v2 = 3
    · replace h := iteT h hs37_3
      rw [hs37_3]
      refine zz_tableIn (tgt := 106) C ddA_where_37 (by decide) (by decide) rfl rfl ?_
      refine zz_iload C 0 ddA_where_106 rfl ?_
      refine zz_bipush (v := 48) C ddA_where_108 (by decide) ?_
      refine zz_icmp_ge (tgt := 117) C ddA_where_110 rfl (fun hc => ?_) (fun hc => ?_)
      · replace h := iteT h hc
        refine zz_aload_n C 2 ddA_where_117 rfl rfl ?_
        obtain ⟨h18, h⟩ := gdN h
        refine zz_getr C ddA_where_118 fl_A_28 rfl h9 (of_decide_eq_true h18) ?_
        obtain ⟨h19, h⟩ := gdN h
        obtain ⟨h20, h⟩ := gdN h
        refine zz_getr C ddA_where_121 fl_A_136 rfl h19 (of_decide_eq_true h20) ?_
        refine zz_iconst (v := 3) C ddA_where_124 (by decide) ?_
        obtain ⟨h21, h⟩ := gdN h
        refine zz_iaload C ddA_where_125 h21 ?_
        refine zz_aload_n C 2 ddA_where_126 rfl rfl ?_
        refine zz_getr C ddA_where_127 fl_A_55 rfl h9 (of_decide_eq_true h10) ?_
        refine zz_getr C ddA_where_130 fl_A_172 rfl h11 (of_decide_eq_true h12) ?_
        obtain ⟨h22, h⟩ := gdN h
        refine zz_getr C ddA_where_133 fl_A_332 rfl h13 (of_decide_eq_true h22) ?_
        refine zz_iload C 0 ddA_where_136 rfl ?_
        obtain ⟨h23, h⟩ := gdN h
        refine zz_iaload C ddA_where_138 h23 ?_
        refine zz_isub C ddA_where_139 ?_
        refine zz_loc (L1 := []) [] rfl ?_
        exact zBA_where_140 hG C N hD hd E h
      · replace h := iteF h hc
        refine zz_iconst (v := (-1)) C ddA_where_113 (by decide) ?_
        refine zz_goto (tgt := 140) C ddA_where_114 rfl ?_
        refine zz_loc (L1 := []) [] rfl ?_
        exact zBA_where_140 hG C N hD hd E h
    replace h := iteF h hs37_3
    have ths37_0 := lv_neT (a := 0) hs37_0 (by decide)
    have ths37_1 := lv_neT (a := 1) hs37_1 (by decide)
    have ths37_2 := lv_neT (a := 2) hs37_2 (by decide)
    have ths37_3 := lv_neT (a := 3) hs37_3 (by decide)
    refine zz_tableOut (tgt := 141) C ddA_where_37 (by omega) rfl ?_
    refine zz_iconst (v := (-1)) C ddA_where_141 (by decide) ?_
    obtain rfl := Option.some.inj h
    exact zz_iret C E ddA_where_142
  · replace h := iteT h hc
    refine zz_iconst (v := (-1)) C ddA_where_11 (by decide) ?_
    obtain rfl := Option.some.inj h
    exact zz_iret C E ddA_where_12
theorem ddA_series_0 : decode cA_series 0 = .ok (.iload_n 3, 1) := by decide +kernel
theorem ddA_series_1 : decode cA_series 1 = .ok (.iconst (-1), 1) := by decide +kernel
theorem ddA_series_2 : decode cA_series 2 = .ok (.if_icmp .lt 32, 3) := by decide +kernel
theorem ddA_series_5 : decode cA_series 5 = .ok (.iload_n 3, 1) := by decide +kernel
theorem ddA_series_6 : decode cA_series 6 = .ok (.bipush 100, 2) := by decide +kernel
theorem ddA_series_8 : decode cA_series 8 = .ok (.if_icmp .ge 26, 3) := by decide +kernel
theorem ddA_series_11 : decode cA_series 11 = .ok (.aload_n 0, 1) := by decide +kernel
theorem ddA_series_12 : decode cA_series 12 = .ok (.getfield 55, 3) := by decide +kernel
theorem ddA_series_15 : decode cA_series 15 = .ok (.iload_n 1, 1) := by decide +kernel
theorem ddA_series_16 : decode cA_series 16 = .ok (.invokevirtual 190, 3) := by decide +kernel
theorem ddA_series_19 : decode cA_series 19 = .ok (.ifCond .eq 15, 3) := by decide +kernel
theorem ddA_series_22 : decode cA_series 22 = .ok (.aload_n 0, 1) := by decide +kernel
theorem ddA_series_23 : decode cA_series 23 = .ok (.getfield 28, 3) := by decide +kernel
theorem ddA_series_26 : decode cA_series 26 = .ok (.iload_n 2, 1) := by decide +kernel
theorem ddA_series_27 : decode cA_series 27 = .ok (.invokevirtual 220, 3) := by decide +kernel
theorem ddA_series_30 : decode cA_series 30 = .ok (.iconst (-1), 1) := by decide +kernel
theorem ddA_series_31 : decode cA_series 31 = .ok (.if_icmp .ne 5, 3) := by decide +kernel
theorem ddA_series_34 : decode cA_series 34 = .ok (.iconst (-1), 1) := by decide +kernel
theorem ddA_series_35 : decode cA_series 35 = .ok (.ireturn, 1) := by decide +kernel
theorem ddA_series_36 : decode cA_series 36 = .ok (.aload_n 0, 1) := by decide +kernel
theorem ddA_series_37 : decode cA_series 37 = .ok (.getfield 84, 3) := by decide +kernel
theorem ddA_series_40 : decode cA_series 40 = .ok (.aload_n 0, 1) := by decide +kernel
theorem ddA_series_41 : decode cA_series 41 = .ok (.getfield 55, 3) := by decide +kernel
theorem ddA_series_44 : decode cA_series 44 = .ok (.invokevirtual 335, 3) := by decide +kernel
theorem ddA_series_47 : decode cA_series 47 = .ok (.iconst 0, 1) := by decide +kernel
theorem ddA_series_48 : decode cA_series 48 = .ok (.istore 4, 2) := by decide +kernel
theorem ddA_series_50 : decode cA_series 50 = .ok (.iconst 0, 1) := by decide +kernel
theorem ddA_series_51 : decode cA_series 51 = .ok (.istore 5, 2) := by decide +kernel
theorem ddA_series_53 : decode cA_series 53 = .ok (.iload 5, 2) := by decide +kernel
theorem ddA_series_55 : decode cA_series 55 = .ok (.sipush 640, 3) := by decide +kernel
theorem ddA_series_58 : decode cA_series 58 = .ok (.if_icmp .ge 41, 3) := by decide +kernel
theorem ddA_series_61 : decode cA_series 61 = .ok (.aload_n 0, 1) := by decide +kernel
theorem ddA_series_62 : decode cA_series 62 = .ok (.getfield 84, 3) := by decide +kernel
theorem ddA_series_65 : decode cA_series 65 = .ok (.iload_n 1, 1) := by decide +kernel
theorem ddA_series_66 : decode cA_series 66 = .ok (.iload_n 2, 1) := by decide +kernel
theorem ddA_series_67 : decode cA_series 67 = .ok (.invokevirtual 230, 3) := by decide +kernel
theorem ddA_series_70 : decode cA_series 70 = .ok (.istore 6, 2) := by decide +kernel
theorem ddA_series_72 : decode cA_series 72 = .ok (.iload 6, 2) := by decide +kernel
theorem ddA_series_74 : decode cA_series 74 = .ok (.iconst (-1), 1) := by decide +kernel
theorem ddA_series_75 : decode cA_series 75 = .ok (.if_icmp .ne 6, 3) := by decide +kernel
theorem ddA_series_78 : decode cA_series 78 = .ok (.goto 21, 3) := by decide +kernel
theorem ddA_series_81 : decode cA_series 81 = .ok (.iload 4, 2) := by decide +kernel
theorem ddA_series_83 : decode cA_series 83 = .ok (.iload_n 3, 1) := by decide +kernel
theorem ddA_series_84 : decode cA_series 84 = .ok (.if_icmp .ne 6, 3) := by decide +kernel
theorem ddA_series_87 : decode cA_series 87 = .ok (.iload 6, 2) := by decide +kernel
theorem ddA_series_89 : decode cA_series 89 = .ok (.ireturn, 1) := by decide +kernel
theorem ddA_series_90 : decode cA_series 90 = .ok (.iinc 4 1, 3) := by decide +kernel
theorem ddA_series_93 : decode cA_series 93 = .ok (.iinc 5 1, 3) := by decide +kernel
theorem ddA_series_96 : decode cA_series 96 = .ok (.goto (-43), 3) := by decide +kernel
theorem ddA_series_99 : decode cA_series 99 = .ok (.iload_n 3, 1) := by decide +kernel
theorem ddA_series_100 : decode cA_series 100 = .ok (.iconst (-1), 1) := by decide +kernel
theorem ddA_series_101 : decode cA_series 101 = .ok (.if_icmp .ne 8, 3) := by decide +kernel
theorem ddA_series_104 : decode cA_series 104 = .ok (.iload 4, 2) := by decide +kernel
theorem ddA_series_106 : decode cA_series 106 = .ok (.goto 4, 3) := by decide +kernel
theorem ddA_series_109 : decode cA_series 109 = .ok (.iconst (-1), 1) := by decide +kernel
theorem ddA_series_110 : decode cA_series 110 = .ok (.ireturn, 1) := by decide +kernel
set_option maxHeartbeats 2000000 in
theorem zBA_series_110 {G : GXM} {X : CxM} (hG : GokM G) (C : CoM G X cA_series "HomeFreed") (N : mLM X = 7) {d : Nat} (hD : dpM X = d) (hd : 4 ≤ d)  {q : Int32 × Mem} (E : EnM G X (some .int) (some (.int q.1)) q.2 0 0) {w0 : Int32} {M : Mem} (h : BA_series_110 w0 M = some q) : ZM G X 110 [] [.int w0] M 0 0 := by
  unfold BA_series_110 at h
  obtain rfl := Option.some.inj h
  exact zz_iret C E ddA_series_110
set_option maxHeartbeats 2000000 in
theorem zBA_series_99 {G : GXM} {X : CxM} (hG : GokM G) (C : CoM G X cA_series "HomeFreed") (N : mLM X = 7) {d : Nat} (hD : dpM X = d) (hd : 4 ≤ d)  {q : Int32 × Mem} (E : EnM G X (some .int) (some (.int q.1)) q.2 0 0) {v3 : Int32} {v4 : Int32} {M : Mem} (h : BA_series_99 v3 v4 M = some q) : ZM G X 99 [(3, .int v3), (4, .int v4)] [] M 0 0 := by
  unfold BA_series_99 at h
  refine zz_iload_n C 0 ddA_series_99 rfl rfl ?_
  refine zz_iconst (v := (-1)) C ddA_series_100 (by decide) ?_
  refine zz_icmp_ne (tgt := 109) C ddA_series_101 rfl (fun hc => ?_) (fun hc => ?_)
  · replace h := iteF h hc
    refine zz_iconst (v := (-1)) C ddA_series_109 (by decide) ?_
    refine zz_loc (L1 := []) [] rfl ?_
    exact zBA_series_110 hG C N hD hd E h
  · replace h := iteT h hc
    refine zz_iload C 1 ddA_series_104 rfl ?_
    refine zz_goto (tgt := 110) C ddA_series_106 rfl ?_
    refine zz_loc (L1 := []) [] rfl ?_
    exact zBA_series_110 hG C N hD hd E h
set_option maxHeartbeats 2000000 in
theorem zBA_series_53 {G : GXM} {X : CxM} (hG : GokM G) (C : CoM G X cA_series "HomeFreed") (N : mLM X = 7) {d : Nat} (hD : dpM X = d) (hd : 4 ≤ d) {v0 : Nat} {v1 : Int32} {v2 : Int32} {v3 : Int32} {K : Nat → Int32 → Int32 → Int32 → Int32 → Int32 → Mem → Option ((Int32 × Mem) ⊕ ((Int32 × Mem) ⊕ (Int32 × Mem)))} {q : (Int32 × Mem) ⊕ ((Int32 × Mem) ⊕ (Int32 × Mem))} (hK : ∀ (v4 : Int32) (v5 : Int32) (M : Mem), K v0 v1 v2 v3 v4 v5 M = some q → ZM G X 53 [(0, .ref v0), (1, .int v1), (2, .int v2), (3, .int v3), (4, .int v4), (5, .int v5)] [] M 0 0) (hr : ∀ r : Int32 × Mem, q = .inl r → EnM G X (some .int) (some (.int r.1)) r.2 0 0) (hx0 : ∀ y : Int32 × Mem, q = (.inr (.inl y)) → ZM G X 78 [(3, .int v3), (4, .int y.1)] [] y.2 0 0) (hx1 : ∀ y : Int32 × Mem, q = (.inr (.inr y)) → ZM G X 99 [(3, .int v3), (4, .int y.1)] [] y.2 0 0) {v4 : Int32} {v5 : Int32} {M : Mem} (h : BA_series_53 K v0 v1 v2 v3 v4 v5 M = some q) : ZM G X 53 [(0, .ref v0), (1, .int v1), (2, .int v2), (3, .int v3), (4, .int v4), (5, .int v5)] [] M 0 0 := by
  unfold BA_series_53 at h
  refine zz_iload C 5 ddA_series_53 rfl ?_
  refine zz_sipush (v := 640) C ddA_series_55 (by decide) ?_
  refine zz_icmp_ge (tgt := 99) C ddA_series_58 rfl (fun hc => ?_) (fun hc => ?_)
  · replace h := iteT h hc
    refine zz_loc (L1 := [(3, .int v3), (4, .int v4)]) [3, 4] rfl ?_
    exact hx1 _ (Option.some.inj h).symm
  · replace h := iteF h hc
    refine zz_aload_n C 0 ddA_series_61 rfl rfl ?_
    obtain ⟨h1, h⟩ := gdN h
    obtain ⟨h2, h⟩ := gdN h
    refine zz_getr C ddA_series_62 fl_A_84 rfl h1 (of_decide_eq_true h2) ?_
    refine zz_iload_n C 1 ddA_series_65 rfl rfl ?_
    refine zz_iload_n C 2 ddA_series_66 rfl rfl ?_
    obtain ⟨h4, h⟩ := gdN h
    obtain ⟨q3, hq3, h⟩ := bindN h
    refine zz_callV0 (As := [.int v1, .int v2]) C ddA_series_67 wd_693 my_H_takeBlock mv_H_takeBlock ⟨_, rfl, rfl⟩ (xH_takeBlock hG (d - 1) (by omega) hq3) (by omega) h4 rfl rfl (Nat.le_of_ble_eq_true rfl) ?_
    refine zz_istore (L1 := [(6, .int q3.1), (0, .ref v0), (1, .int v1), (2, .int v2), (3, .int v3), (4, .int v4), (5, .int v5)]) C ddA_series_70 N (by decide) rfl ?_
    refine zz_iload C 0 ddA_series_72 rfl ?_
    refine zz_iconst (v := (-1)) C ddA_series_74 (by decide) ?_
    refine zz_icmp_ne (tgt := 81) C ddA_series_75 rfl (fun hc => ?_) (fun hc => ?_)
    · replace h := iteF h hc
      refine zz_iload C 5 ddA_series_81 rfl ?_
      refine zz_iload_n C 4 ddA_series_83 rfl rfl ?_
      refine zz_icmp_ne (tgt := 90) C ddA_series_84 rfl (fun hc => ?_) (fun hc => ?_)
      · replace h := iteF h hc
        refine zz_iinc (v := v4 + 1) (L1 := [(4, .int (v4 + 1)), (6, .int q3.1), (0, .ref v0), (1, .int v1), (2, .int v2), (3, .int v3), (5, .int v5)]) C 5 ddA_series_90 rfl rfl N (by decide) rfl ?_
        refine zz_iinc (v := v5 + 1) (L1 := [(5, .int (v5 + 1)), (4, .int (v4 + 1)), (6, .int q3.1), (0, .ref v0), (1, .int v1), (2, .int v2), (3, .int v3)]) C 6 ddA_series_93 rfl rfl N (by decide) rfl ?_
        refine zz_goto (tgt := 53) C ddA_series_96 rfl ?_
        refine zz_loc (L1 := [(0, .ref v0), (1, .int v1), (2, .int v2), (3, .int v3), (4, .int (v4 + 1)), (5, .int (v5 + 1))]) [3, 4, 5, 6, 1, 0] rfl ?_
        exact hK _ _ _ h
      · replace h := iteT h hc
        refine zz_iload C 0 ddA_series_87 rfl ?_
        exact zz_iret C (hr _ (Option.some.inj h).symm) ddA_series_89
    · replace h := iteT h hc
      refine zz_loc (L1 := [(3, .int v3), (4, .int v4)]) [4, 5] rfl ?_
      exact hx0 _ (Option.some.inj h).symm
set_option maxHeartbeats 2000000 in
theorem zLA_series_53 {G : GXM} {X : CxM} (hG : GokM G) (C : CoM G X cA_series "HomeFreed") (N : mLM X = 7) {d : Nat} (hD : dpM X = d) (hd : 4 ≤ d) {v0 : Nat} {v1 : Int32} {v2 : Int32} {v3 : Int32} {q : (Int32 × Mem) ⊕ ((Int32 × Mem) ⊕ (Int32 × Mem))} : ∀ (f : Nat) (v4 : Int32) (v5 : Int32) (M : Mem), LA_series_53 f v0 v1 v2 v3 v4 v5 M = some q → (hr : ∀ r : Int32 × Mem, q = .inl r → EnM G X (some .int) (some (.int r.1)) r.2 0 0) → (hx0 : ∀ y : Int32 × Mem, q = (.inr (.inl y)) → ZM G X 78 [(3, .int v3), (4, .int y.1)] [] y.2 0 0) → (hx1 : ∀ y : Int32 × Mem, q = (.inr (.inr y)) → ZM G X 99 [(3, .int v3), (4, .int y.1)] [] y.2 0 0) → ZM G X 53 [(0, .ref v0), (1, .int v1), (2, .int v2), (3, .int v3), (4, .int v4), (5, .int v5)] [] M 0 0 := by
  intro f
  induction f with
  | zero => intro v4 v5 M h; cases h
  | succ f ih =>
    intro v4 v5 M h hr hx0 hx1
    exact zBA_series_53 hG C N hD hd (K := LA_series_53 f) (q := q) (fun v4 v5 M h => ih v4 v5 M h hr hx0 hx1) hr hx0 hx1 h
set_option maxHeartbeats 2000000 in
theorem zBA_series_34 {G : GXM} {X : CxM} (hG : GokM G) (C : CoM G X cA_series "HomeFreed") (N : mLM X = 7) {d : Nat} (hD : dpM X = d) (hd : 4 ≤ d)  {q : Int32 × Mem} (E : EnM G X (some .int) (some (.int q.1)) q.2 0 0) {M : Mem} (h : BA_series_34 M = some q) : ZM G X 34 [] [] M 0 0 := by
  unfold BA_series_34 at h
  refine zz_iconst (v := (-1)) C ddA_series_34 (by decide) ?_
  obtain rfl := Option.some.inj h
  exact zz_iret C E ddA_series_35
set_option maxHeartbeats 2000000 in
theorem xA_series {G : GXM} {l : Launch} (hG : GokM G) (d : Nat) (hd : 4 ≤ d) {v0 : Nat} {v1 : Int32} {v2 : Int32} {v3 : Int32} {M : Mem} {q : Int32 × Mem} (h : fA_series v0 v1 v2 v3 M = some q) : ExM G l d 0 0 yA_series cA_series 7 (some .int) [.ref v0, .int v1, .int v2, .int v3] M (some (.int q.1)) q.2 := by
  refine ex_of hG (by decide +kernel) (Nat.le_of_ble_eq_true rfl) ?_
  intro X hl C E N hD hn
  show ZM G X 0 [(0, .ref v0), (1, .int v1), (2, .int v2), (3, .int v3)] [] M 0 0
  unfold fA_series at h
  refine zz_iload_n C 3 ddA_series_0 rfl rfl ?_
  refine zz_iconst (v := (-1)) C ddA_series_1 (by decide) ?_
  refine zz_icmp_lt (tgt := 34) C ddA_series_2 rfl (fun hc => ?_) (fun hc => ?_)
  · replace h := iteT h hc
    refine zz_loc (L1 := []) [] rfl ?_
    exact zBA_series_34 hG C N hD hd E h
  · replace h := iteF h hc
    refine zz_iload_n C 3 ddA_series_5 rfl rfl ?_
    refine zz_bipush (v := 100) C ddA_series_6 (by decide) ?_
    refine zz_icmp_ge (tgt := 34) C ddA_series_8 rfl (fun hc => ?_) (fun hc => ?_)
    · replace h := iteT h hc
      refine zz_loc (L1 := []) [] rfl ?_
      exact zBA_series_34 hG C N hD hd E h
    · replace h := iteF h hc
      refine zz_aload_n C 0 ddA_series_11 rfl rfl ?_
      obtain ⟨h1, h⟩ := gdN h
      obtain ⟨h2, h⟩ := gdN h
      refine zz_getr C ddA_series_12 fl_A_55 rfl h1 (of_decide_eq_true h2) ?_
      refine zz_iload_n C 1 ddA_series_15 rfl rfl ?_
      obtain ⟨h4, h⟩ := gdN h
      obtain ⟨q3, hq3, h⟩ := bindN h
      refine zz_callV0 (As := [.int v1]) C ddA_series_16 wd_606 my_H_isLiving mv_H_isLiving ⟨_, rfl, rfl⟩ (xH_isLiving hG (d - 1) (by omega) hq3) (by omega) h4 rfl rfl (Nat.le_of_ble_eq_true rfl) ?_
      refine zz_if_eq (tgt := 34) C ddA_series_19 rfl (fun hc => ?_) (fun hc => ?_)
      · replace h := iteT h hc
        refine zz_loc (L1 := []) [] rfl ?_
        exact zBA_series_34 hG C N hD hd E h
      · replace h := iteF h hc
        refine zz_aload_n C 0 ddA_series_22 rfl rfl ?_
        obtain ⟨h5, h⟩ := gdN h
        obtain ⟨h6, h⟩ := gdN h
        refine zz_getr C ddA_series_23 fl_A_28 rfl h5 (of_decide_eq_true h6) ?_
        refine zz_iload_n C 2 ddA_series_26 rfl rfl ?_
        obtain ⟨h8, h⟩ := gdN h
        obtain ⟨q7, hq7, h⟩ := bindN h
        refine zz_callV0 (As := [.int v2]) C ddA_series_27 wd_661 my_U_kindFor mv_U_kindFor ⟨_, rfl, rfl⟩ (xU_kindFor hG (d - 1) (by omega) hq7) (by omega) h8 rfl rfl (Nat.le_of_ble_eq_true rfl) ?_
        refine zz_iconst (v := (-1)) C ddA_series_30 (by decide) ?_
        refine zz_icmp_ne (tgt := 36) C ddA_series_31 rfl (fun hc => ?_) (fun hc => ?_)
        · replace h := iteF h hc
          refine zz_aload_n C 0 ddA_series_36 rfl rfl ?_
          obtain ⟨h9, h⟩ := gdN h
          obtain ⟨h10, h⟩ := gdN h
          refine zz_getr C ddA_series_37 fl_A_84 rfl h9 (of_decide_eq_true h10) ?_
          refine zz_aload_n C 0 ddA_series_40 rfl rfl ?_
          obtain ⟨h11, h⟩ := gdN h
          refine zz_getr C ddA_series_41 fl_A_55 rfl h9 (of_decide_eq_true h11) ?_
          obtain ⟨h13, h⟩ := gdN h
          obtain ⟨q12, hq12, h⟩ := bindN h
          refine zz_callV0 (As := [.ref (grM q7.2 v0 7)]) C ddA_series_44 wd_963 my_H_copyFrom mv_H_copyFrom ⟨_, rfl, rfl⟩ (xH_copyFrom hG (d - 1) (by omega) hq12) (by omega) h13 rfl rfl (Nat.le_of_ble_eq_true rfl) ?_
          refine zz_iconst (v := 0) C ddA_series_47 (by decide) ?_
          refine zz_istore (L1 := [(4, .int 0), (0, .ref v0), (1, .int v1), (2, .int v2), (3, .int v3)]) C ddA_series_48 N (by decide) rfl ?_
          refine zz_iconst (v := 0) C ddA_series_50 (by decide) ?_
          refine zz_istore (L1 := [(5, .int 0), (4, .int 0), (0, .ref v0), (1, .int v1), (2, .int v2), (3, .int v3)]) C ddA_series_51 N (by decide) rfl ?_
          refine zz_loc (L1 := [(0, .ref v0), (1, .int v1), (2, .int v2), (3, .int v3), (4, .int 0), (5, .int 0)]) [2, 3, 4, 5, 1, 0] rfl ?_
          obtain ⟨q14, hq14, h⟩ := bindN h
          refine zLA_series_53 hG C N hD hd 1000000 _ _ _ hq14 ?_ ?_ ?_
          · intro r15 eq14; replace eq14 := eq14.symm; subst eq14
            obtain rfl := Option.some.inj h
            exact E
          · intro y16 eq14; replace eq14 := eq14.symm; subst eq14
            refine zz_goto (tgt := 99) C ddA_series_78 rfl ?_
            exact zBA_series_99 hG C N hD hd E h
          · intro y17 eq14; replace eq14 := eq14.symm; subst eq14
            exact zBA_series_99 hG C N hD hd E h
        · replace h := iteT h hc
          refine zz_loc (L1 := []) [] rfl ?_
          exact zBA_series_34 hG C N hD hd E h
theorem ddA_cheapestPage_0 : decode cA_cheapestPage 0 = .ok (.iconst (-1), 1) := by decide +kernel
theorem ddA_cheapestPage_1 : decode cA_cheapestPage 1 = .ok (.istore_n 1, 1) := by decide +kernel
theorem ddA_cheapestPage_2 : decode cA_cheapestPage 2 = .ok (.iconst 0, 1) := by decide +kernel
theorem ddA_cheapestPage_3 : decode cA_cheapestPage 3 = .ok (.istore_n 2, 1) := by decide +kernel
theorem ddA_cheapestPage_4 : decode cA_cheapestPage 4 = .ok (.iconst 0, 1) := by decide +kernel
theorem ddA_cheapestPage_5 : decode cA_cheapestPage 5 = .ok (.istore_n 3, 1) := by decide +kernel
theorem ddA_cheapestPage_6 : decode cA_cheapestPage 6 = .ok (.iload_n 3, 1) := by decide +kernel
theorem ddA_cheapestPage_7 : decode cA_cheapestPage 7 = .ok (.aload_n 0, 1) := by decide +kernel
theorem ddA_cheapestPage_8 : decode cA_cheapestPage 8 = .ok (.getfield 28, 3) := by decide +kernel
theorem ddA_cheapestPage_11 : decode cA_cheapestPage 11 = .ok (.getfield 136, 3) := by decide +kernel
theorem ddA_cheapestPage_14 : decode cA_cheapestPage 14 = .ok (.iconst 1, 1) := by decide +kernel
theorem ddA_cheapestPage_15 : decode cA_cheapestPage 15 = .ok (.iaload, 1) := by decide +kernel
theorem ddA_cheapestPage_16 : decode cA_cheapestPage 16 = .ok (.if_icmp .ge 40, 3) := by decide +kernel
theorem ddA_cheapestPage_19 : decode cA_cheapestPage 19 = .ok (.aload_n 0, 1) := by decide +kernel
theorem ddA_cheapestPage_20 : decode cA_cheapestPage 20 = .ok (.getfield 55, 3) := by decide +kernel
theorem ddA_cheapestPage_23 : decode cA_cheapestPage 23 = .ok (.iload_n 3, 1) := by decide +kernel
theorem ddA_cheapestPage_24 : decode cA_cheapestPage 24 = .ok (.invokevirtual 165, 3) := by decide +kernel
theorem ddA_cheapestPage_27 : decode cA_cheapestPage 27 = .ok (.istore 4, 2) := by decide +kernel
theorem ddA_cheapestPage_29 : decode cA_cheapestPage 29 = .ok (.iload 4, 2) := by decide +kernel
theorem ddA_cheapestPage_31 : decode cA_cheapestPage 31 = .ok (.ifCond .le 19, 3) := by decide +kernel
theorem ddA_cheapestPage_34 : decode cA_cheapestPage 34 = .ok (.iload_n 1, 1) := by decide +kernel
theorem ddA_cheapestPage_35 : decode cA_cheapestPage 35 = .ok (.iconst (-1), 1) := by decide +kernel
theorem ddA_cheapestPage_36 : decode cA_cheapestPage 36 = .ok (.if_icmp .eq 9, 3) := by decide +kernel
theorem ddA_cheapestPage_39 : decode cA_cheapestPage 39 = .ok (.iload 4, 2) := by decide +kernel
theorem ddA_cheapestPage_41 : decode cA_cheapestPage 41 = .ok (.iload_n 2, 1) := by decide +kernel
theorem ddA_cheapestPage_42 : decode cA_cheapestPage 42 = .ok (.if_icmp .ge 8, 3) := by decide +kernel
theorem ddA_cheapestPage_45 : decode cA_cheapestPage 45 = .ok (.iload_n 3, 1) := by decide +kernel
theorem ddA_cheapestPage_46 : decode cA_cheapestPage 46 = .ok (.istore_n 1, 1) := by decide +kernel
theorem ddA_cheapestPage_47 : decode cA_cheapestPage 47 = .ok (.iload 4, 2) := by decide +kernel
theorem ddA_cheapestPage_49 : decode cA_cheapestPage 49 = .ok (.istore_n 2, 1) := by decide +kernel
theorem ddA_cheapestPage_50 : decode cA_cheapestPage 50 = .ok (.iinc 3 1, 3) := by decide +kernel
theorem ddA_cheapestPage_53 : decode cA_cheapestPage 53 = .ok (.goto (-47), 3) := by decide +kernel
theorem ddA_cheapestPage_56 : decode cA_cheapestPage 56 = .ok (.iload_n 1, 1) := by decide +kernel
theorem ddA_cheapestPage_57 : decode cA_cheapestPage 57 = .ok (.ireturn, 1) := by decide +kernel
set_option maxHeartbeats 2000000 in
theorem zBA_cheapestPage_50 {G : GXM} {X : CxM} (hG : GokM G) (C : CoM G X cA_cheapestPage "HomeFreed") (N : mLM X = 5) {d : Nat} (hD : dpM X = d) (hd : 1 ≤ d) {v0 : Nat} {K : Nat → Int32 → Int32 → Int32 → Mem → Option ((Int32 × Mem))} {q : (Int32 × Mem)} (hK : ∀ (v1 : Int32) (v2 : Int32) (v3 : Int32) (M : Mem), K v0 v1 v2 v3 M = some q → ZM G X 6 [(0, .ref v0), (1, .int v1), (2, .int v2), (3, .int v3)] [] M 0 0) (hr : ∀ r : Int32 × Mem, q =  r → EnM G X (some .int) (some (.int r.1)) r.2 0 0) {v1 : Int32} {v2 : Int32} {v3 : Int32} {M : Mem} (h : BA_cheapestPage_50 K v0 v1 v2 v3 M = some q) : ZM G X 50 [(0, .ref v0), (1, .int v1), (2, .int v2), (3, .int v3)] [] M 0 0 := by
  unfold BA_cheapestPage_50 at h
  refine zz_iinc (v := v3 + 1) (L1 := [(3, .int (v3 + 1)), (0, .ref v0), (1, .int v1), (2, .int v2)]) C 3 ddA_cheapestPage_50 rfl rfl N (by decide) rfl ?_
  refine zz_goto (tgt := 6) C ddA_cheapestPage_53 rfl ?_
  refine zz_loc (L1 := [(0, .ref v0), (1, .int v1), (2, .int v2), (3, .int (v3 + 1))]) [1, 2, 3, 0] rfl ?_
  exact hK _ _ _ _ h
set_option maxHeartbeats 2000000 in
theorem zBA_cheapestPage_45 {G : GXM} {X : CxM} (hG : GokM G) (C : CoM G X cA_cheapestPage "HomeFreed") (N : mLM X = 5) {d : Nat} (hD : dpM X = d) (hd : 1 ≤ d) {v0 : Nat} {K : Nat → Int32 → Int32 → Int32 → Mem → Option ((Int32 × Mem))} {q : (Int32 × Mem)} (hK : ∀ (v1 : Int32) (v2 : Int32) (v3 : Int32) (M : Mem), K v0 v1 v2 v3 M = some q → ZM G X 6 [(0, .ref v0), (1, .int v1), (2, .int v2), (3, .int v3)] [] M 0 0) (hr : ∀ r : Int32 × Mem, q =  r → EnM G X (some .int) (some (.int r.1)) r.2 0 0) {v3 : Int32} {v4 : Int32} {M : Mem} (h : BA_cheapestPage_45 K v0 v3 v4 M = some q) : ZM G X 45 [(0, .ref v0), (3, .int v3), (4, .int v4)] [] M 0 0 := by
  unfold BA_cheapestPage_45 at h
  refine zz_iload_n C 1 ddA_cheapestPage_45 rfl rfl ?_
  refine zz_istore_n (L1 := [(1, .int v3), (0, .ref v0), (3, .int v3), (4, .int v4)]) C ddA_cheapestPage_46 rfl N (by decide) rfl ?_
  refine zz_iload C 3 ddA_cheapestPage_47 rfl ?_
  refine zz_istore_n (L1 := [(2, .int v4), (1, .int v3), (0, .ref v0), (3, .int v3), (4, .int v4)]) C ddA_cheapestPage_49 rfl N (by decide) rfl ?_
  refine zz_loc (L1 := [(0, .ref v0), (1, .int v3), (2, .int v4), (3, .int v3)]) [2, 1, 0, 3] rfl ?_
  exact zBA_cheapestPage_50 hG C N hD hd hK hr h
set_option maxHeartbeats 2000000 in
theorem zBA_cheapestPage_6 {G : GXM} {X : CxM} (hG : GokM G) (C : CoM G X cA_cheapestPage "HomeFreed") (N : mLM X = 5) {d : Nat} (hD : dpM X = d) (hd : 1 ≤ d) {v0 : Nat} {K : Nat → Int32 → Int32 → Int32 → Mem → Option ((Int32 × Mem))} {q : (Int32 × Mem)} (hK : ∀ (v1 : Int32) (v2 : Int32) (v3 : Int32) (M : Mem), K v0 v1 v2 v3 M = some q → ZM G X 6 [(0, .ref v0), (1, .int v1), (2, .int v2), (3, .int v3)] [] M 0 0) (hr : ∀ r : Int32 × Mem, q =  r → EnM G X (some .int) (some (.int r.1)) r.2 0 0) {v1 : Int32} {v2 : Int32} {v3 : Int32} {M : Mem} (h : BA_cheapestPage_6 K v0 v1 v2 v3 M = some q) : ZM G X 6 [(0, .ref v0), (1, .int v1), (2, .int v2), (3, .int v3)] [] M 0 0 := by
  unfold BA_cheapestPage_6 at h
  refine zz_iload_n C 3 ddA_cheapestPage_6 rfl rfl ?_
  refine zz_aload_n C 0 ddA_cheapestPage_7 rfl rfl ?_
  obtain ⟨h1, h⟩ := gdN h
  obtain ⟨h2, h⟩ := gdN h
  refine zz_getr C ddA_cheapestPage_8 fl_A_28 rfl h1 (of_decide_eq_true h2) ?_
  obtain ⟨h3, h⟩ := gdN h
  obtain ⟨h4, h⟩ := gdN h
  refine zz_getr C ddA_cheapestPage_11 fl_A_136 rfl h3 (of_decide_eq_true h4) ?_
  refine zz_iconst (v := 1) C ddA_cheapestPage_14 (by decide) ?_
  obtain ⟨h5, h⟩ := gdN h
  refine zz_iaload C ddA_cheapestPage_15 h5 ?_
  refine zz_icmp_ge (tgt := 56) C ddA_cheapestPage_16 rfl (fun hc => ?_) (fun hc => ?_)
  · replace h := iteT h hc
    refine zz_iload_n C 1 ddA_cheapestPage_56 rfl rfl ?_
    exact zz_iret C (hr _ (Option.some.inj h).symm) ddA_cheapestPage_57
  · replace h := iteF h hc
    refine zz_aload_n C 0 ddA_cheapestPage_19 rfl rfl ?_
    obtain ⟨h6, h⟩ := gdN h
    refine zz_getr C ddA_cheapestPage_20 fl_A_55 rfl h1 (of_decide_eq_true h6) ?_
    refine zz_iload_n C 3 ddA_cheapestPage_23 rfl rfl ?_
    obtain ⟨h8, h⟩ := gdN h
    obtain ⟨q7, hq7, h⟩ := bindN h
    refine zz_callV0 (As := [.int v3]) C ddA_cheapestPage_24 wd_972 my_H_usedOf mv_H_usedOf ⟨_, rfl, rfl⟩ (xH_usedOf hG (d - 1) (by omega) hq7) (by omega) h8 rfl rfl (Nat.le_of_ble_eq_true rfl) ?_
    refine zz_istore (L1 := [(4, .int q7.1), (0, .ref v0), (1, .int v1), (2, .int v2), (3, .int v3)]) C ddA_cheapestPage_27 N (by decide) rfl ?_
    refine zz_iload C 0 ddA_cheapestPage_29 rfl ?_
    refine zz_if_le (tgt := 50) C ddA_cheapestPage_31 rfl (fun hc => ?_) (fun hc => ?_)
    · replace h := iteT h hc
      refine zz_loc (L1 := [(0, .ref v0), (1, .int v1), (2, .int v2), (3, .int v3)]) [1, 2, 3, 4] rfl ?_
      exact zBA_cheapestPage_50 hG C N hD hd hK hr h
    · replace h := iteF h hc
      refine zz_iload_n C 2 ddA_cheapestPage_34 rfl rfl ?_
      refine zz_iconst (v := (-1)) C ddA_cheapestPage_35 (by decide) ?_
      refine zz_icmp_eq (tgt := 45) C ddA_cheapestPage_36 rfl (fun hc => ?_) (fun hc => ?_)
      · replace h := iteT h hc
        refine zz_loc (L1 := [(0, .ref v0), (3, .int v3), (4, .int q7.1)]) [1, 4, 0] rfl ?_
        exact zBA_cheapestPage_45 hG C N hD hd hK hr h
      · replace h := iteF h hc
        refine zz_iload C 0 ddA_cheapestPage_39 rfl ?_
        refine zz_iload_n C 3 ddA_cheapestPage_41 rfl rfl ?_
        refine zz_icmp_ge (tgt := 50) C ddA_cheapestPage_42 rfl (fun hc => ?_) (fun hc => ?_)
        · replace h := iteT h hc
          refine zz_loc (L1 := [(0, .ref v0), (1, .int v1), (2, .int v2), (3, .int v3)]) [1, 2, 3, 4] rfl ?_
          exact zBA_cheapestPage_50 hG C N hD hd hK hr h
        · replace h := iteF h hc
          refine zz_loc (L1 := [(0, .ref v0), (3, .int v3), (4, .int q7.1)]) [1, 4, 0] rfl ?_
          exact zBA_cheapestPage_45 hG C N hD hd hK hr h
set_option maxHeartbeats 2000000 in
theorem zLA_cheapestPage_6 {G : GXM} {X : CxM} (hG : GokM G) (C : CoM G X cA_cheapestPage "HomeFreed") (N : mLM X = 5) {d : Nat} (hD : dpM X = d) (hd : 1 ≤ d) {v0 : Nat} {q : (Int32 × Mem)} : ∀ (f : Nat) (v1 : Int32) (v2 : Int32) (v3 : Int32) (M : Mem), LA_cheapestPage_6 f v0 v1 v2 v3 M = some q → (hr : ∀ r : Int32 × Mem, q =  r → EnM G X (some .int) (some (.int r.1)) r.2 0 0) → ZM G X 6 [(0, .ref v0), (1, .int v1), (2, .int v2), (3, .int v3)] [] M 0 0 := by
  intro f
  induction f with
  | zero => intro v1 v2 v3 M h; cases h
  | succ f ih =>
    intro v1 v2 v3 M h hr
    exact zBA_cheapestPage_6 hG C N hD hd (K := LA_cheapestPage_6 f) (q := q) (fun v1 v2 v3 M h => ih v1 v2 v3 M h hr) hr h
set_option maxHeartbeats 2000000 in
theorem xA_cheapestPage {G : GXM} {l : Launch} (hG : GokM G) (d : Nat) (hd : 1 ≤ d) {v0 : Nat} {M : Mem} {q : Int32 × Mem} (h : fA_cheapestPage v0 M = some q) : ExM G l d 0 0 yA_cheapestPage cA_cheapestPage 5 (some .int) [.ref v0] M (some (.int q.1)) q.2 := by
  refine ex_of hG (by decide +kernel) (Nat.le_of_ble_eq_true rfl) ?_
  intro X hl C E N hD hn
  show ZM G X 0 [(0, .ref v0)] [] M 0 0
  unfold fA_cheapestPage at h
  refine zz_iconst (v := (-1)) C ddA_cheapestPage_0 (by decide) ?_
  refine zz_istore_n (L1 := [(1, .int ((-1))), (0, .ref v0)]) C ddA_cheapestPage_1 rfl N (by decide) rfl ?_
  refine zz_iconst (v := 0) C ddA_cheapestPage_2 (by decide) ?_
  refine zz_istore_n (L1 := [(2, .int 0), (1, .int ((-1))), (0, .ref v0)]) C ddA_cheapestPage_3 rfl N (by decide) rfl ?_
  refine zz_iconst (v := 0) C ddA_cheapestPage_4 (by decide) ?_
  refine zz_istore_n (L1 := [(3, .int 0), (2, .int 0), (1, .int ((-1))), (0, .ref v0)]) C ddA_cheapestPage_5 rfl N (by decide) rfl ?_
  refine zz_loc (L1 := [(0, .ref v0), (1, .int ((-1))), (2, .int 0), (3, .int 0)]) [3, 2, 1, 0] rfl ?_
  obtain ⟨q1, hq1, h⟩ := bindN h
  refine zLA_cheapestPage_6 hG C N hD hd 1000000 _ _ _ _ hq1 ?_
  · intro r2 eq1; replace eq1 := eq1.symm; subst eq1
    obtain rfl := Option.some.inj h
    exact E
theorem ddA_cheapest_0 : decode cA_cheapest 0 = .ok (.aload_n 0, 1) := by decide +kernel
theorem ddA_cheapest_1 : decode cA_cheapest 1 = .ok (.invokevirtual 337, 3) := by decide +kernel
theorem ddA_cheapest_4 : decode cA_cheapest 4 = .ok (.istore_n 2, 1) := by decide +kernel
theorem ddA_cheapest_5 : decode cA_cheapest 5 = .ok (.iload_n 2, 1) := by decide +kernel
theorem ddA_cheapest_6 : decode cA_cheapest 6 = .ok (.iconst (-1), 1) := by decide +kernel
theorem ddA_cheapest_7 : decode cA_cheapest 7 = .ok (.if_icmp .ne 5, 3) := by decide +kernel
theorem ddA_cheapest_10 : decode cA_cheapest 10 = .ok (.iconst (-1), 1) := by decide +kernel
theorem ddA_cheapest_11 : decode cA_cheapest 11 = .ok (.ireturn, 1) := by decide +kernel
theorem ddA_cheapest_12 : decode cA_cheapest 12 = .ok (.iload_n 1, 1) := by decide +kernel
theorem ddA_cheapest_13 : decode cA_cheapest 13 = .ok (.lookupswitch 38 #[(0, 27), (1, 29)], 27) := by decide +kernel
theorem ddA_cheapest_40 : decode cA_cheapest 40 = .ok (.iload_n 2, 1) := by decide +kernel
theorem ddA_cheapest_41 : decode cA_cheapest 41 = .ok (.ireturn, 1) := by decide +kernel
theorem ddA_cheapest_42 : decode cA_cheapest 42 = .ok (.aload_n 0, 1) := by decide +kernel
theorem ddA_cheapest_43 : decode cA_cheapest 43 = .ok (.getfield 55, 3) := by decide +kernel
theorem ddA_cheapest_46 : decode cA_cheapest 46 = .ok (.iload_n 2, 1) := by decide +kernel
theorem ddA_cheapest_47 : decode cA_cheapest 47 = .ok (.invokevirtual 340, 3) := by decide +kernel
theorem ddA_cheapest_50 : decode cA_cheapest 50 = .ok (.ireturn, 1) := by decide +kernel
theorem ddA_cheapest_51 : decode cA_cheapest 51 = .ok (.iconst (-1), 1) := by decide +kernel
theorem ddA_cheapest_52 : decode cA_cheapest 52 = .ok (.ireturn, 1) := by decide +kernel
set_option maxHeartbeats 2000000 in
theorem xA_cheapest {G : GXM} {l : Launch} (hG : GokM G) (d : Nat) (hd : 2 ≤ d) {v0 : Nat} {v1 : Int32} {M : Mem} {q : Int32 × Mem} (h : fA_cheapest v0 v1 M = some q) : ExM G l d 0 0 yA_cheapest cA_cheapest 3 (some .int) [.ref v0, .int v1] M (some (.int q.1)) q.2 := by
  refine ex_of hG (by decide +kernel) (Nat.le_of_ble_eq_true rfl) ?_
  intro X hl C E N hD hn
  show ZM G X 0 [(0, .ref v0), (1, .int v1)] [] M 0 0
  unfold fA_cheapest at h
  refine zz_aload_n C 0 ddA_cheapest_0 rfl rfl ?_
  obtain ⟨h2, h⟩ := gdN h
  obtain ⟨q1, hq1, h⟩ := bindN h
  refine zz_callV0 (As := []) C ddA_cheapest_1 wd_968 my_A_cheapestPage mv_A_cheapestPage ⟨_, rfl, rfl⟩ (xA_cheapestPage hG (d - 1) (by omega) hq1) (by omega) h2 rfl rfl (Nat.le_of_ble_eq_true rfl) ?_
  refine zz_istore_n (L1 := [(2, .int q1.1), (0, .ref v0), (1, .int v1)]) C ddA_cheapest_4 rfl N (by decide) rfl ?_
  refine zz_iload_n C 0 ddA_cheapest_5 rfl rfl ?_
  refine zz_iconst (v := (-1)) C ddA_cheapest_6 (by decide) ?_
  refine zz_icmp_ne (tgt := 12) C ddA_cheapest_7 rfl (fun hc => ?_) (fun hc => ?_)
  · replace h := iteF h hc
    refine zz_iload_n C 2 ddA_cheapest_12 rfl rfl ?_
    by_cases hs13_0 : v1 = 0
    · replace h := iteT h hs13_0
      rw [hs13_0]
      refine zz_lookup (tgt := 40) C ddA_cheapest_13 (by decide) rfl rfl ?_
      refine zz_iload_n C 0 ddA_cheapest_40 rfl rfl ?_
      obtain rfl := Option.some.inj h
      exact zz_iret C E ddA_cheapest_41
    replace h := iteF h hs13_0
    by_cases hs13_1 : v1 = 1
    · replace h := iteT h hs13_1
      rw [hs13_1]
      refine zz_lookup (tgt := 42) C ddA_cheapest_13 (by decide) rfl rfl ?_
      refine zz_aload_n C 1 ddA_cheapest_42 rfl rfl ?_
      obtain ⟨h3, h⟩ := gdN h
      obtain ⟨h4, h⟩ := gdN h
      refine zz_getr C ddA_cheapest_43 fl_A_55 rfl h3 (of_decide_eq_true h4) ?_
      refine zz_iload_n C 0 ddA_cheapest_46 rfl rfl ?_
      obtain ⟨h6, h⟩ := gdN h
      obtain ⟨q5, hq5, h⟩ := bindN h
      refine zz_callV0 (As := [.int q1.1]) C ddA_cheapest_47 wd_973 my_H_heldIn mv_H_heldIn ⟨_, rfl, rfl⟩ (xH_heldIn hG (d - 1) (by omega) hq5) (by omega) h6 rfl rfl (Nat.le_of_ble_eq_true rfl) ?_
      obtain rfl := Option.some.inj h
      exact zz_iret C E ddA_cheapest_50
    replace h := iteF h hs13_1
    refine zz_lookup (tgt := 51) (off := 38) C ddA_cheapest_13 (by decide) ((lv_osw hs13_0 (by decide)).trans ((lv_osw hs13_1 (by decide)).trans rfl)) rfl ?_
    refine zz_iconst (v := (-1)) C ddA_cheapest_51 (by decide) ?_
    obtain rfl := Option.some.inj h
    exact zz_iret C E ddA_cheapest_52
  · replace h := iteT h hc
    refine zz_iconst (v := (-1)) C ddA_cheapest_10 (by decide) ?_
    obtain rfl := Option.some.inj h
    exact zz_iret C E ddA_cheapest_11
theorem ddH_pagesInUse_0 : decode cH_pagesInUse 0 = .ok (.iconst 0, 1) := by decide +kernel
theorem ddH_pagesInUse_1 : decode cH_pagesInUse 1 = .ok (.istore_n 1, 1) := by decide +kernel
theorem ddH_pagesInUse_2 : decode cH_pagesInUse 2 = .ok (.iconst 0, 1) := by decide +kernel
theorem ddH_pagesInUse_3 : decode cH_pagesInUse 3 = .ok (.istore_n 2, 1) := by decide +kernel
theorem ddH_pagesInUse_4 : decode cH_pagesInUse 4 = .ok (.iload_n 2, 1) := by decide +kernel
theorem ddH_pagesInUse_5 : decode cH_pagesInUse 5 = .ok (.aload_n 0, 1) := by decide +kernel
theorem ddH_pagesInUse_6 : decode cH_pagesInUse 6 = .ok (.getfield 46, 3) := by decide +kernel
theorem ddH_pagesInUse_9 : decode cH_pagesInUse 9 = .ok (.getfield 76, 3) := by decide +kernel
theorem ddH_pagesInUse_12 : decode cH_pagesInUse 12 = .ok (.iconst 1, 1) := by decide +kernel
theorem ddH_pagesInUse_13 : decode cH_pagesInUse 13 = .ok (.iaload, 1) := by decide +kernel
theorem ddH_pagesInUse_14 : decode cH_pagesInUse 14 = .ok (.if_icmp .ge 27, 3) := by decide +kernel
theorem ddH_pagesInUse_17 : decode cH_pagesInUse 17 = .ok (.iload_n 1, 1) := by decide +kernel
theorem ddH_pagesInUse_18 : decode cH_pagesInUse 18 = .ok (.aload_n 0, 1) := by decide +kernel
theorem ddH_pagesInUse_19 : decode cH_pagesInUse 19 = .ok (.getfield 9, 3) := by decide +kernel
theorem ddH_pagesInUse_22 : decode cH_pagesInUse 22 = .ok (.iload_n 2, 1) := by decide +kernel
theorem ddH_pagesInUse_23 : decode cH_pagesInUse 23 = .ok (.iaload, 1) := by decide +kernel
theorem ddH_pagesInUse_24 : decode cH_pagesInUse 24 = .ok (.iconst (-1), 1) := by decide +kernel
theorem ddH_pagesInUse_25 : decode cH_pagesInUse 25 = .ok (.if_icmp .ne 7, 3) := by decide +kernel
theorem ddH_pagesInUse_28 : decode cH_pagesInUse 28 = .ok (.iconst 0, 1) := by decide +kernel
theorem ddH_pagesInUse_29 : decode cH_pagesInUse 29 = .ok (.goto 4, 3) := by decide +kernel
theorem ddH_pagesInUse_32 : decode cH_pagesInUse 32 = .ok (.iconst 1, 1) := by decide +kernel
theorem ddH_pagesInUse_33 : decode cH_pagesInUse 33 = .ok (.iadd, 1) := by decide +kernel
theorem ddH_pagesInUse_34 : decode cH_pagesInUse 34 = .ok (.istore_n 1, 1) := by decide +kernel
theorem ddH_pagesInUse_35 : decode cH_pagesInUse 35 = .ok (.iinc 2 1, 3) := by decide +kernel
theorem ddH_pagesInUse_38 : decode cH_pagesInUse 38 = .ok (.goto (-34), 3) := by decide +kernel
theorem ddH_pagesInUse_41 : decode cH_pagesInUse 41 = .ok (.iload_n 1, 1) := by decide +kernel
theorem ddH_pagesInUse_42 : decode cH_pagesInUse 42 = .ok (.ireturn, 1) := by decide +kernel
set_option maxHeartbeats 2000000 in
theorem zBH_pagesInUse_33 {G : GXM} {X : CxM} (hG : GokM G) (C : CoM G X cH_pagesInUse "HomeFreed$Heap") (N : mLM X = 3) {d : Nat} (hD : dpM X = d) (hd : 0 ≤ d) {v0 : Nat} {K : Nat → Int32 → Int32 → Mem → Option ((Int32 × Mem))} {q : (Int32 × Mem)} (hK : ∀ (v1 : Int32) (v2 : Int32) (M : Mem), K v0 v1 v2 M = some q → ZM G X 4 [(0, .ref v0), (1, .int v1), (2, .int v2)] [] M 0 0) (hr : ∀ r : Int32 × Mem, q =  r → EnM G X (some .int) (some (.int r.1)) r.2 0 0) {v2 : Int32} {w0 : Int32} {w1 : Int32} {M : Mem} (h : BH_pagesInUse_33 K v0 v2 w0 w1 M = some q) : ZM G X 33 [(0, .ref v0), (2, .int v2)] [.int w1, .int w0] M 0 0 := by
  unfold BH_pagesInUse_33 at h
  refine zz_iadd C ddH_pagesInUse_33 ?_
  refine zz_istore_n (L1 := [(1, .int (w0 + w1)), (0, .ref v0), (2, .int v2)]) C ddH_pagesInUse_34 rfl N (by decide) rfl ?_
  refine zz_iinc (v := v2 + 1) (L1 := [(2, .int (v2 + 1)), (1, .int (w0 + w1)), (0, .ref v0)]) C 2 ddH_pagesInUse_35 rfl rfl N (by decide) rfl ?_
  refine zz_goto (tgt := 4) C ddH_pagesInUse_38 rfl ?_
  refine zz_loc (L1 := [(0, .ref v0), (1, .int (w0 + w1)), (2, .int (v2 + 1))]) [2, 1, 0] rfl ?_
  exact hK _ _ _ h
set_option maxHeartbeats 2000000 in
theorem zBH_pagesInUse_4 {G : GXM} {X : CxM} (hG : GokM G) (C : CoM G X cH_pagesInUse "HomeFreed$Heap") (N : mLM X = 3) {d : Nat} (hD : dpM X = d) (hd : 0 ≤ d) {v0 : Nat} {K : Nat → Int32 → Int32 → Mem → Option ((Int32 × Mem))} {q : (Int32 × Mem)} (hK : ∀ (v1 : Int32) (v2 : Int32) (M : Mem), K v0 v1 v2 M = some q → ZM G X 4 [(0, .ref v0), (1, .int v1), (2, .int v2)] [] M 0 0) (hr : ∀ r : Int32 × Mem, q =  r → EnM G X (some .int) (some (.int r.1)) r.2 0 0) {v1 : Int32} {v2 : Int32} {M : Mem} (h : BH_pagesInUse_4 K v0 v1 v2 M = some q) : ZM G X 4 [(0, .ref v0), (1, .int v1), (2, .int v2)] [] M 0 0 := by
  unfold BH_pagesInUse_4 at h
  refine zz_iload_n C 2 ddH_pagesInUse_4 rfl rfl ?_
  refine zz_aload_n C 0 ddH_pagesInUse_5 rfl rfl ?_
  obtain ⟨h1, h⟩ := gdN h
  obtain ⟨h2, h⟩ := gdN h
  refine zz_getr C ddH_pagesInUse_6 fl_H_46 rfl h1 (of_decide_eq_true h2) ?_
  obtain ⟨h3, h⟩ := gdN h
  obtain ⟨h4, h⟩ := gdN h
  refine zz_getr C ddH_pagesInUse_9 fl_H_76 rfl h3 (of_decide_eq_true h4) ?_
  refine zz_iconst (v := 1) C ddH_pagesInUse_12 (by decide) ?_
  obtain ⟨h5, h⟩ := gdN h
  refine zz_iaload C ddH_pagesInUse_13 h5 ?_
  refine zz_icmp_ge (tgt := 41) C ddH_pagesInUse_14 rfl (fun hc => ?_) (fun hc => ?_)
  · replace h := iteT h hc
    refine zz_iload_n C 1 ddH_pagesInUse_41 rfl rfl ?_
    exact zz_iret C (hr _ (Option.some.inj h).symm) ddH_pagesInUse_42
  · replace h := iteF h hc
    refine zz_iload_n C 1 ddH_pagesInUse_17 rfl rfl ?_
    refine zz_aload_n C 0 ddH_pagesInUse_18 rfl rfl ?_
    obtain ⟨h6, h⟩ := gdN h
    refine zz_getr C ddH_pagesInUse_19 fl_H_9 rfl h1 (of_decide_eq_true h6) ?_
    refine zz_iload_n C 2 ddH_pagesInUse_22 rfl rfl ?_
    obtain ⟨h7, h⟩ := gdN h
    refine zz_iaload C ddH_pagesInUse_23 h7 ?_
    refine zz_iconst (v := (-1)) C ddH_pagesInUse_24 (by decide) ?_
    refine zz_icmp_ne (tgt := 32) C ddH_pagesInUse_25 rfl (fun hc => ?_) (fun hc => ?_)
    · replace h := iteF h hc
      refine zz_iconst (v := 1) C ddH_pagesInUse_32 (by decide) ?_
      refine zz_loc (L1 := [(0, .ref v0), (2, .int v2)]) [0, 2] rfl ?_
      exact zBH_pagesInUse_33 hG C N hD hd hK hr h
    · replace h := iteT h hc
      refine zz_iconst (v := 0) C ddH_pagesInUse_28 (by decide) ?_
      refine zz_goto (tgt := 33) C ddH_pagesInUse_29 rfl ?_
      refine zz_loc (L1 := [(0, .ref v0), (2, .int v2)]) [0, 2] rfl ?_
      exact zBH_pagesInUse_33 hG C N hD hd hK hr h
set_option maxHeartbeats 2000000 in
theorem zLH_pagesInUse_4 {G : GXM} {X : CxM} (hG : GokM G) (C : CoM G X cH_pagesInUse "HomeFreed$Heap") (N : mLM X = 3) {d : Nat} (hD : dpM X = d) (hd : 0 ≤ d) {v0 : Nat} {q : (Int32 × Mem)} : ∀ (f : Nat) (v1 : Int32) (v2 : Int32) (M : Mem), LH_pagesInUse_4 f v0 v1 v2 M = some q → (hr : ∀ r : Int32 × Mem, q =  r → EnM G X (some .int) (some (.int r.1)) r.2 0 0) → ZM G X 4 [(0, .ref v0), (1, .int v1), (2, .int v2)] [] M 0 0 := by
  intro f
  induction f with
  | zero => intro v1 v2 M h; cases h
  | succ f ih =>
    intro v1 v2 M h hr
    exact zBH_pagesInUse_4 hG C N hD hd (K := LH_pagesInUse_4 f) (q := q) (fun v1 v2 M h => ih v1 v2 M h hr) hr h
set_option maxHeartbeats 2000000 in
theorem xH_pagesInUse {G : GXM} {l : Launch} (hG : GokM G) (d : Nat) (hd : 0 ≤ d) {v0 : Nat} {M : Mem} {q : Int32 × Mem} (h : fH_pagesInUse v0 M = some q) : ExM G l d 0 0 yH_pagesInUse cH_pagesInUse 3 (some .int) [.ref v0] M (some (.int q.1)) q.2 := by
  refine ex_of hG (by decide +kernel) (Nat.le_of_ble_eq_true rfl) ?_
  intro X hl C E N hD hn
  show ZM G X 0 [(0, .ref v0)] [] M 0 0
  unfold fH_pagesInUse at h
  refine zz_iconst (v := 0) C ddH_pagesInUse_0 (by decide) ?_
  refine zz_istore_n (L1 := [(1, .int 0), (0, .ref v0)]) C ddH_pagesInUse_1 rfl N (by decide) rfl ?_
  refine zz_iconst (v := 0) C ddH_pagesInUse_2 (by decide) ?_
  refine zz_istore_n (L1 := [(2, .int 0), (1, .int 0), (0, .ref v0)]) C ddH_pagesInUse_3 rfl N (by decide) rfl ?_
  refine zz_loc (L1 := [(0, .ref v0), (1, .int 0), (2, .int 0)]) [2, 1, 0] rfl ?_
  obtain ⟨q1, hq1, h⟩ := bindN h
  refine zLH_pagesInUse_4 hG C N hD hd 1000000 _ _ _ hq1 ?_
  · intro r2 eq1; replace eq1 := eq1.symm; subst eq1
    obtain rfl := Option.some.inj h
    exact E
theorem ddA_run_0 : decode cA_run 0 = .ok (.aload_n 0, 1) := by decide +kernel
theorem ddA_run_1 : decode cA_run 1 = .ok (.getfield 28, 3) := by decide +kernel
theorem ddA_run_4 : decode cA_run 4 = .ok (.invokevirtual 132, 3) := by decide +kernel
theorem ddA_run_7 : decode cA_run 7 = .ok (.ifCond .eq 20, 3) := by decide +kernel
theorem ddA_run_10 : decode cA_run 10 = .ok (.aload_n 0, 1) := by decide +kernel
theorem ddA_run_11 : decode cA_run 11 = .ok (.iload_n 1, 1) := by decide +kernel
theorem ddA_run_12 : decode cA_run 12 = .ok (.invokevirtual 248, 3) := by decide +kernel
theorem ddA_run_15 : decode cA_run 15 = .ok (.ifCond .eq 12, 3) := by decide +kernel
theorem ddA_run_18 : decode cA_run 18 = .ok (.iload_n 2, 1) := by decide +kernel
theorem ddA_run_19 : decode cA_run 19 = .ok (.ifCond .lt 8, 3) := by decide +kernel
theorem ddA_run_22 : decode cA_run 22 = .ok (.iload_n 2, 1) := by decide +kernel
theorem ddA_run_23 : decode cA_run 23 = .ok (.iconst 2, 1) := by decide +kernel
theorem ddA_run_24 : decode cA_run 24 = .ok (.if_icmp .le 5, 3) := by decide +kernel
theorem ddA_run_27 : decode cA_run 27 = .ok (.iconst (-1), 1) := by decide +kernel
theorem ddA_run_28 : decode cA_run 28 = .ok (.ireturn, 1) := by decide +kernel
theorem ddA_run_29 : decode cA_run 29 = .ok (.aload_n 0, 1) := by decide +kernel
theorem ddA_run_30 : decode cA_run 30 = .ok (.getfield 84, 3) := by decide +kernel
theorem ddA_run_33 : decode cA_run 33 = .ok (.aload_n 0, 1) := by decide +kernel
theorem ddA_run_34 : decode cA_run 34 = .ok (.getfield 55, 3) := by decide +kernel
theorem ddA_run_37 : decode cA_run 37 = .ok (.invokevirtual 335, 3) := by decide +kernel
theorem ddA_run_40 : decode cA_run 40 = .ok (.aload_n 0, 1) := by decide +kernel
theorem ddA_run_41 : decode cA_run 41 = .ok (.getfield 90, 3) := by decide +kernel
theorem ddA_run_44 : decode cA_run 44 = .ok (.aload_n 0, 1) := by decide +kernel
theorem ddA_run_45 : decode cA_run 45 = .ok (.getfield 84, 3) := by decide +kernel
theorem ddA_run_48 : decode cA_run 48 = .ok (.aload_n 0, 1) := by decide +kernel
theorem ddA_run_49 : decode cA_run 49 = .ok (.getfield 37, 3) := by decide +kernel
theorem ddA_run_52 : decode cA_run 52 = .ok (.iload_n 1, 1) := by decide +kernel
theorem ddA_run_53 : decode cA_run 53 = .ok (.aaload, 1) := by decide +kernel
theorem ddA_run_54 : decode cA_run 54 = .ok (.invokevirtual 251, 3) := by decide +kernel
theorem ddA_run_57 : decode cA_run 57 = .ok (.istore_n 3, 1) := by decide +kernel
theorem ddA_run_58 : decode cA_run 58 = .ok (.iload_n 2, 1) := by decide +kernel
theorem ddA_run_59 : decode cA_run 59 = .ok (.lookupswitch 35 #[(0, 25), (1, 27)], 25) := by decide +kernel
theorem ddA_run_84 : decode cA_run 84 = .ok (.iload_n 3, 1) := by decide +kernel
theorem ddA_run_85 : decode cA_run 85 = .ok (.ireturn, 1) := by decide +kernel
theorem ddA_run_86 : decode cA_run 86 = .ok (.aload_n 0, 1) := by decide +kernel
theorem ddA_run_87 : decode cA_run 87 = .ok (.getfield 84, 3) := by decide +kernel
theorem ddA_run_90 : decode cA_run 90 = .ok (.invokevirtual 343, 3) := by decide +kernel
theorem ddA_run_93 : decode cA_run 93 = .ok (.ireturn, 1) := by decide +kernel
theorem ddA_run_94 : decode cA_run 94 = .ok (.aload_n 0, 1) := by decide +kernel
theorem ddA_run_95 : decode cA_run 95 = .ok (.getfield 84, 3) := by decide +kernel
theorem ddA_run_98 : decode cA_run 98 = .ok (.invokevirtual 259, 3) := by decide +kernel
theorem ddA_run_101 : decode cA_run 101 = .ok (.ireturn, 1) := by decide +kernel
set_option maxHeartbeats 2000000 in
theorem zBA_run_27 {G : GXM} {X : CxM} (hG : GokM G) (C : CoM G X cA_run "HomeFreed") (N : mLM X = 4) {d : Nat} (hD : dpM X = d) (hd : 6 ≤ d)  {q : Int32 × Mem} (E : EnM G X (some .int) (some (.int q.1)) q.2 0 0) {M : Mem} (h : BA_run_27 M = some q) : ZM G X 27 [] [] M 0 0 := by
  unfold BA_run_27 at h
  refine zz_iconst (v := (-1)) C ddA_run_27 (by decide) ?_
  obtain rfl := Option.some.inj h
  exact zz_iret C E ddA_run_28
set_option maxHeartbeats 2000000 in
theorem xA_run {G : GXM} {l : Launch} (hG : GokM G) (d : Nat) (hd : 6 ≤ d) {v0 : Nat} {v1 : Int32} {v2 : Int32} {M : Mem} {q : Int32 × Mem} (h : fA_run v0 v1 v2 M = some q) : ExM G l d 0 0 yA_run cA_run 4 (some .int) [.ref v0, .int v1, .int v2] M (some (.int q.1)) q.2 := by
  refine ex_of hG (by decide +kernel) (Nat.le_of_ble_eq_true rfl) ?_
  intro X hl C E N hD hn
  show ZM G X 0 [(0, .ref v0), (1, .int v1), (2, .int v2)] [] M 0 0
  unfold fA_run at h
  refine zz_aload_n C 0 ddA_run_0 rfl rfl ?_
  obtain ⟨h1, h⟩ := gdN h
  obtain ⟨h2, h⟩ := gdN h
  refine zz_getr C ddA_run_1 fl_A_28 rfl h1 (of_decide_eq_true h2) ?_
  obtain ⟨h4, h⟩ := gdN h
  obtain ⟨q3, hq3, h⟩ := bindN h
  refine zz_callV0 (As := []) C ddA_run_4 wd_566 my_U_areTold mv_U_areTold ⟨_, rfl, rfl⟩ (xU_areTold hG (d - 1) (by omega) hq3) (by omega) h4 rfl rfl (Nat.le_of_ble_eq_true rfl) ?_
  refine zz_if_eq (tgt := 27) C ddA_run_7 rfl (fun hc => ?_) (fun hc => ?_)
  · replace h := iteT h hc
    refine zz_loc (L1 := []) [] rfl ?_
    exact zBA_run_27 hG C N hD hd E h
  · replace h := iteF h hc
    refine zz_aload_n C 0 ddA_run_10 rfl rfl ?_
    refine zz_iload_n C 1 ddA_run_11 rfl rfl ?_
    obtain ⟨h6, h⟩ := gdN h
    obtain ⟨q5, hq5, h⟩ := bindN h
    refine zz_callV0 (As := [.int v1]) C ddA_run_12 wd_813 my_A_isScript mv_A_isScript ⟨_, rfl, rfl⟩ (xA_isScript hG (d - 1) (by omega) hq5) (by omega) h6 rfl rfl (Nat.le_of_ble_eq_true rfl) ?_
    refine zz_if_eq (tgt := 27) C ddA_run_15 rfl (fun hc => ?_) (fun hc => ?_)
    · replace h := iteT h hc
      refine zz_loc (L1 := []) [] rfl ?_
      exact zBA_run_27 hG C N hD hd E h
    · replace h := iteF h hc
      refine zz_iload_n C 2 ddA_run_18 rfl rfl ?_
      refine zz_if_lt (tgt := 27) C ddA_run_19 rfl (fun hc => ?_) (fun hc => ?_)
      · replace h := iteT h hc
        refine zz_loc (L1 := []) [] rfl ?_
        exact zBA_run_27 hG C N hD hd E h
      · replace h := iteF h hc
        refine zz_iload_n C 2 ddA_run_22 rfl rfl ?_
        refine zz_iconst (v := 2) C ddA_run_23 (by decide) ?_
        refine zz_icmp_le (tgt := 29) C ddA_run_24 rfl (fun hc => ?_) (fun hc => ?_)
        · replace h := iteT h hc
          refine zz_aload_n C 0 ddA_run_29 rfl rfl ?_
          obtain ⟨h7, h⟩ := gdN h
          obtain ⟨h8, h⟩ := gdN h
          refine zz_getr C ddA_run_30 fl_A_84 rfl h7 (of_decide_eq_true h8) ?_
          refine zz_aload_n C 0 ddA_run_33 rfl rfl ?_
          obtain ⟨h9, h⟩ := gdN h
          refine zz_getr C ddA_run_34 fl_A_55 rfl h7 (of_decide_eq_true h9) ?_
          obtain ⟨h11, h⟩ := gdN h
          obtain ⟨q10, hq10, h⟩ := bindN h
          refine zz_callV0 (As := [.ref (grM q5.2 v0 7)]) C ddA_run_37 wd_963 my_H_copyFrom mv_H_copyFrom ⟨_, rfl, rfl⟩ (xH_copyFrom hG (d - 1) (by omega) hq10) (by omega) h11 rfl rfl (Nat.le_of_ble_eq_true rfl) ?_
          refine zz_aload_n C 0 ddA_run_40 rfl rfl ?_
          obtain ⟨h12, h⟩ := gdN h
          obtain ⟨h13, h⟩ := gdN h
          refine zz_getr C ddA_run_41 fl_A_90 rfl h12 (of_decide_eq_true h13) ?_
          refine zz_aload_n C 0 ddA_run_44 rfl rfl ?_
          obtain ⟨h14, h⟩ := gdN h
          refine zz_getr C ddA_run_45 fl_A_84 rfl h12 (of_decide_eq_true h14) ?_
          refine zz_aload_n C 0 ddA_run_48 rfl rfl ?_
          obtain ⟨h15, h⟩ := gdN h
          refine zz_getr C ddA_run_49 fl_A_37 rfl h12 (of_decide_eq_true h15) ?_
          refine zz_iload_n C 1 ddA_run_52 rfl rfl ?_
          obtain ⟨h16, h⟩ := gdN h
          obtain ⟨h17, h⟩ := gdN h
          refine zz_aaload (t := 104) C ddA_run_53 (by decide) (fun _ => rfl) h16 (of_decide_eq_true h17) ?_
          obtain ⟨h19, h⟩ := gdN h
          obtain ⟨q18, hq18, h⟩ := bindN h
          refine zz_callV0 (As := [.ref (grM q10 v0 13), .ref (grM q10 (grM q10 v0 4) (Int32.toNatClampNeg v1))]) C ddA_run_54 wd_817 my_G_runWhole mv_G_runWhole ⟨_, rfl, rfl⟩ (xG_runWhole hG (d - 1) (by omega) hq18) (by omega) h19 rfl rfl (Nat.le_of_ble_eq_true rfl) ?_
          refine zz_istore_n (L1 := [(3, .int q18.1), (0, .ref v0), (1, .int v1), (2, .int v2)]) C ddA_run_57 rfl N (by decide) rfl ?_
          refine zz_iload_n C 3 ddA_run_58 rfl rfl ?_
          by_cases hs59_0 : v2 = 0
          · replace h := iteT h hs59_0
            rw [hs59_0]
            refine zz_lookup (tgt := 84) C ddA_run_59 (by decide) rfl rfl ?_
            refine zz_iload_n C 0 ddA_run_84 rfl rfl ?_
            obtain rfl := Option.some.inj h
            exact zz_iret C E ddA_run_85
          replace h := iteF h hs59_0
          by_cases hs59_1 : v2 = 1
          · replace h := iteT h hs59_1
            rw [hs59_1]
            refine zz_lookup (tgt := 86) C ddA_run_59 (by decide) rfl rfl ?_
            refine zz_aload_n C 1 ddA_run_86 rfl rfl ?_
            obtain ⟨h20, h⟩ := gdN h
            obtain ⟨h21, h⟩ := gdN h
            refine zz_getr C ddA_run_87 fl_A_84 rfl h20 (of_decide_eq_true h21) ?_
            obtain ⟨h23, h⟩ := gdN h
            obtain ⟨q22, hq22, h⟩ := bindN h
            refine zz_callV0 (As := []) C ddA_run_90 wd_978 my_H_pagesInUse mv_H_pagesInUse ⟨_, rfl, rfl⟩ (xH_pagesInUse hG (d - 1) (by omega) hq22) (by omega) h23 rfl rfl (Nat.le_of_ble_eq_true rfl) ?_
            obtain rfl := Option.some.inj h
            exact zz_iret C E ddA_run_93
          replace h := iteF h hs59_1
          refine zz_lookup (tgt := 94) (off := 35) C ddA_run_59 (by decide) ((lv_osw hs59_0 (by decide)).trans ((lv_osw hs59_1 (by decide)).trans rfl)) rfl ?_
          refine zz_aload_n C 1 ddA_run_94 rfl rfl ?_
          obtain ⟨h24, h⟩ := gdN h
          obtain ⟨h25, h⟩ := gdN h
          refine zz_getr C ddA_run_95 fl_A_84 rfl h24 (of_decide_eq_true h25) ?_
          obtain ⟨h27, h⟩ := gdN h
          obtain ⟨q26, hq26, h⟩ := bindN h
          refine zz_callV0 (As := []) C ddA_run_98 wd_872 my_H_heldInAll mv_H_heldInAll ⟨_, rfl, rfl⟩ (xH_heldInAll hG (d - 1) (by omega) hq26) (by omega) h27 rfl rfl (Nat.le_of_ble_eq_true rfl) ?_
          obtain rfl := Option.some.inj h
          exact zz_iret C E ddA_run_101
        · replace h := iteF h hc
          refine zz_loc (L1 := []) [] rfl ?_
          exact zBA_run_27 hG C N hD hd E h
theorem ddS_isMixable_0 : decode cS_isMixable 0 = .ok (.iconst 0, 1) := by decide +kernel
theorem ddS_isMixable_1 : decode cS_isMixable 1 = .ok (.istore_n 1, 1) := by decide +kernel
theorem ddS_isMixable_2 : decode cS_isMixable 2 = .ok (.iload_n 1, 1) := by decide +kernel
theorem ddS_isMixable_3 : decode cS_isMixable 3 = .ok (.aload_n 0, 1) := by decide +kernel
theorem ddS_isMixable_4 : decode cS_isMixable 4 = .ok (.getfield 21, 3) := by decide +kernel
theorem ddS_isMixable_7 : decode cS_isMixable 7 = .ok (.if_icmp .ge 32, 3) := by decide +kernel
theorem ddS_isMixable_10 : decode cS_isMixable 10 = .ok (.aload_n 0, 1) := by decide +kernel
theorem ddS_isMixable_11 : decode cS_isMixable 11 = .ok (.getfield 9, 3) := by decide +kernel
theorem ddS_isMixable_14 : decode cS_isMixable 14 = .ok (.iload_n 1, 1) := by decide +kernel
theorem ddS_isMixable_15 : decode cS_isMixable 15 = .ok (.iaload, 1) := by decide +kernel
theorem ddS_isMixable_16 : decode cS_isMixable 16 = .ok (.iconst 5, 1) := by decide +kernel
theorem ddS_isMixable_17 : decode cS_isMixable 17 = .ok (.if_icmp .eq 14, 3) := by decide +kernel
theorem ddS_isMixable_20 : decode cS_isMixable 20 = .ok (.aload_n 0, 1) := by decide +kernel
theorem ddS_isMixable_21 : decode cS_isMixable 21 = .ok (.getfield 9, 3) := by decide +kernel
theorem ddS_isMixable_24 : decode cS_isMixable 24 = .ok (.iload_n 1, 1) := by decide +kernel
theorem ddS_isMixable_25 : decode cS_isMixable 25 = .ok (.iaload, 1) := by decide +kernel
theorem ddS_isMixable_26 : decode cS_isMixable 26 = .ok (.bipush 6, 2) := by decide +kernel
theorem ddS_isMixable_28 : decode cS_isMixable 28 = .ok (.if_icmp .ne 5, 3) := by decide +kernel
theorem ddS_isMixable_31 : decode cS_isMixable 31 = .ok (.iconst 0, 1) := by decide +kernel
theorem ddS_isMixable_32 : decode cS_isMixable 32 = .ok (.ireturn, 1) := by decide +kernel
theorem ddS_isMixable_33 : decode cS_isMixable 33 = .ok (.iinc 1 1, 3) := by decide +kernel
theorem ddS_isMixable_36 : decode cS_isMixable 36 = .ok (.goto (-34), 3) := by decide +kernel
theorem ddS_isMixable_39 : decode cS_isMixable 39 = .ok (.aload_n 0, 1) := by decide +kernel
theorem ddS_isMixable_40 : decode cS_isMixable 40 = .ok (.getfield 21, 3) := by decide +kernel
theorem ddS_isMixable_43 : decode cS_isMixable 43 = .ok (.bipush 6, 2) := by decide +kernel
theorem ddS_isMixable_45 : decode cS_isMixable 45 = .ok (.if_icmp .gt 7, 3) := by decide +kernel
theorem ddS_isMixable_48 : decode cS_isMixable 48 = .ok (.iconst 1, 1) := by decide +kernel
theorem ddS_isMixable_49 : decode cS_isMixable 49 = .ok (.goto 4, 3) := by decide +kernel
theorem ddS_isMixable_52 : decode cS_isMixable 52 = .ok (.iconst 0, 1) := by decide +kernel
theorem ddS_isMixable_53 : decode cS_isMixable 53 = .ok (.ireturn, 1) := by decide +kernel
set_option maxHeartbeats 2000000 in
theorem zBS_isMixable_53 {G : GXM} {X : CxM} (hG : GokM G) (C : CoM G X cS_isMixable "HomeFreed$Script") (N : mLM X = 2) {d : Nat} (hD : dpM X = d) (hd : 0 ≤ d)  {q : Int32 × Mem} (E : EnM G X (some .boolean) (some (.int q.1)) q.2 0 0) {w0 : Int32} {M : Mem} (h : BS_isMixable_53 w0 M = some q) : ZM G X 53 [] [.int w0] M 0 0 := by
  unfold BS_isMixable_53 at h
  obtain ⟨h1, h⟩ := gdN h
  obtain rfl := Option.some.inj h
  exact zz_zret C (of_decide_eq_true h1) E ddS_isMixable_53
set_option maxHeartbeats 2000000 in
theorem zBS_isMixable_31 {G : GXM} {X : CxM} (hG : GokM G) (C : CoM G X cS_isMixable "HomeFreed$Script") (N : mLM X = 2) {d : Nat} (hD : dpM X = d) (hd : 0 ≤ d)  {q : Int32 × Mem} (E : EnM G X (some .boolean) (some (.int q.1)) q.2 0 0) {M : Mem} (h : BS_isMixable_31 M = some q) : ZM G X 31 [] [] M 0 0 := by
  unfold BS_isMixable_31 at h
  refine zz_iconst (v := 0) C ddS_isMixable_31 (by decide) ?_
  obtain rfl := Option.some.inj h
  exact zz_zret C (by decide) E ddS_isMixable_32
set_option maxHeartbeats 2000000 in
theorem zBS_isMixable_2 {G : GXM} {X : CxM} (hG : GokM G) (C : CoM G X cS_isMixable "HomeFreed$Script") (N : mLM X = 2) {d : Nat} (hD : dpM X = d) (hd : 0 ≤ d) {v0 : Nat} {K : Nat → Int32 → Mem → Option ((Mem) ⊕ (Mem))} {q : (Mem) ⊕ (Mem)} (hK : ∀ (v1 : Int32) (M : Mem), K v0 v1 M = some q → ZM G X 2 [(0, .ref v0), (1, .int v1)] [] M 0 0) (hx0 : ∀ y : Mem, q = (.inl y) → ZM G X 31 [] [] y 0 0) (hx1 : ∀ y : Mem, q = (.inr y) → ZM G X 39 [(0, .ref v0)] [] y 0 0) {v1 : Int32} {M : Mem} (h : BS_isMixable_2 K v0 v1 M = some q) : ZM G X 2 [(0, .ref v0), (1, .int v1)] [] M 0 0 := by
  unfold BS_isMixable_2 at h
  refine zz_iload_n C 1 ddS_isMixable_2 rfl rfl ?_
  refine zz_aload_n C 0 ddS_isMixable_3 rfl rfl ?_
  obtain ⟨h1, h⟩ := gdN h
  refine zz_geti C ddS_isMixable_4 fl_S_21 rfl h1 ?_
  refine zz_icmp_ge (tgt := 39) C ddS_isMixable_7 rfl (fun hc => ?_) (fun hc => ?_)
  · replace h := iteT h hc
    refine zz_loc (L1 := [(0, .ref v0)]) [0] rfl ?_
    exact hx1 _ (Option.some.inj h).symm
  · replace h := iteF h hc
    refine zz_aload_n C 0 ddS_isMixable_10 rfl rfl ?_
    obtain ⟨h2, h⟩ := gdN h
    refine zz_getr C ddS_isMixable_11 fl_S_9 rfl h1 (of_decide_eq_true h2) ?_
    refine zz_iload_n C 1 ddS_isMixable_14 rfl rfl ?_
    obtain ⟨h3, h⟩ := gdN h
    refine zz_iaload C ddS_isMixable_15 h3 ?_
    refine zz_iconst (v := 5) C ddS_isMixable_16 (by decide) ?_
    refine zz_icmp_eq (tgt := 31) C ddS_isMixable_17 rfl (fun hc => ?_) (fun hc => ?_)
    · replace h := iteT h hc
      refine zz_loc (L1 := []) [] rfl ?_
      exact hx0 _ (Option.some.inj h).symm
    · replace h := iteF h hc
      refine zz_aload_n C 0 ddS_isMixable_20 rfl rfl ?_
      refine zz_getr C ddS_isMixable_21 fl_S_9 rfl h1 (of_decide_eq_true h2) ?_
      refine zz_iload_n C 1 ddS_isMixable_24 rfl rfl ?_
      refine zz_iaload C ddS_isMixable_25 h3 ?_
      refine zz_bipush (v := 6) C ddS_isMixable_26 (by decide) ?_
      refine zz_icmp_ne (tgt := 33) C ddS_isMixable_28 rfl (fun hc => ?_) (fun hc => ?_)
      · replace h := iteF h hc
        refine zz_iinc (v := v1 + 1) (L1 := [(1, .int (v1 + 1)), (0, .ref v0)]) C 1 ddS_isMixable_33 rfl rfl N (by decide) rfl ?_
        refine zz_goto (tgt := 2) C ddS_isMixable_36 rfl ?_
        refine zz_loc (L1 := [(0, .ref v0), (1, .int (v1 + 1))]) [1, 0] rfl ?_
        exact hK _ _ h
      · replace h := iteT h hc
        refine zz_loc (L1 := []) [] rfl ?_
        exact hx0 _ (Option.some.inj h).symm
set_option maxHeartbeats 2000000 in
theorem zLS_isMixable_2 {G : GXM} {X : CxM} (hG : GokM G) (C : CoM G X cS_isMixable "HomeFreed$Script") (N : mLM X = 2) {d : Nat} (hD : dpM X = d) (hd : 0 ≤ d) {v0 : Nat} {q : (Mem) ⊕ (Mem)} : ∀ (f : Nat) (v1 : Int32) (M : Mem), LS_isMixable_2 f v0 v1 M = some q → (hx0 : ∀ y : Mem, q = (.inl y) → ZM G X 31 [] [] y 0 0) → (hx1 : ∀ y : Mem, q = (.inr y) → ZM G X 39 [(0, .ref v0)] [] y 0 0) → ZM G X 2 [(0, .ref v0), (1, .int v1)] [] M 0 0 := by
  intro f
  induction f with
  | zero => intro v1 M h; cases h
  | succ f ih =>
    intro v1 M h hx0 hx1
    exact zBS_isMixable_2 hG C N hD hd (K := LS_isMixable_2 f) (q := q) (fun v1 M h => ih v1 M h hx0 hx1) hx0 hx1 h
set_option maxHeartbeats 2000000 in
theorem xS_isMixable {G : GXM} {l : Launch} (hG : GokM G) (d : Nat) (hd : 0 ≤ d) {v0 : Nat} {M : Mem} {q : Int32 × Mem} (h : fS_isMixable v0 M = some q) : ExM G l d 0 0 yS_isMixable cS_isMixable 2 (some .boolean) [.ref v0] M (some (.int q.1)) q.2 := by
  refine ex_of hG (by decide +kernel) (Nat.le_of_ble_eq_true rfl) ?_
  intro X hl C E N hD hn
  show ZM G X 0 [(0, .ref v0)] [] M 0 0
  unfold fS_isMixable at h
  refine zz_iconst (v := 0) C ddS_isMixable_0 (by decide) ?_
  refine zz_istore_n (L1 := [(1, .int 0), (0, .ref v0)]) C ddS_isMixable_1 rfl N (by decide) rfl ?_
  refine zz_loc (L1 := [(0, .ref v0), (1, .int 0)]) [1, 0] rfl ?_
  obtain ⟨q1, hq1, h⟩ := bindN h
  refine zLS_isMixable_2 hG C N hD hd 1000000 _ _ hq1 ?_ ?_
  · intro y2 eq1; replace eq1 := eq1.symm; subst eq1
    exact zBS_isMixable_31 hG C N hD hd E h
  · intro y3 eq1; replace eq1 := eq1.symm; subst eq1
    refine zz_aload_n C 0 ddS_isMixable_39 rfl rfl ?_
    obtain ⟨h4, h⟩ := gdN h
    refine zz_geti C ddS_isMixable_40 fl_S_21 rfl h4 ?_
    refine zz_bipush (v := 6) C ddS_isMixable_43 (by decide) ?_
    refine zz_icmp_gt (tgt := 52) C ddS_isMixable_45 rfl (fun hc => ?_) (fun hc => ?_)
    · replace h := iteT h hc
      refine zz_iconst (v := 0) C ddS_isMixable_52 (by decide) ?_
      refine zz_loc (L1 := []) [] rfl ?_
      exact zBS_isMixable_53 hG C N hD hd E h
    · replace h := iteF h hc
      refine zz_iconst (v := 1) C ddS_isMixable_48 (by decide) ?_
      refine zz_goto (tgt := 53) C ddS_isMixable_49 rfl ?_
      refine zz_loc (L1 := []) [] rfl ?_
      exact zBS_isMixable_53 hG C N hD hd E h
theorem ddX_begin_0 : decode cX_begin 0 = .ok (.aload_n 0, 1) := by decide +kernel
theorem ddX_begin_1 : decode cX_begin 1 = .ok (.aload_n 2, 1) := by decide +kernel
theorem ddX_begin_2 : decode cX_begin 2 = .ok (.putfield 33, 3) := by decide +kernel
theorem ddX_begin_5 : decode cX_begin 5 = .ok (.aload_n 0, 1) := by decide +kernel
theorem ddX_begin_6 : decode cX_begin 6 = .ok (.aload_n 3, 1) := by decide +kernel
theorem ddX_begin_7 : decode cX_begin 7 = .ok (.putfield 37, 3) := by decide +kernel
theorem ddX_begin_10 : decode cX_begin 10 = .ok (.aload_n 0, 1) := by decide +kernel
theorem ddX_begin_11 : decode cX_begin 11 = .ok (.getfield 11, 3) := by decide +kernel
theorem ddX_begin_14 : decode cX_begin 14 = .ok (.iconst 0, 1) := by decide +kernel
theorem ddX_begin_15 : decode cX_begin 15 = .ok (.aaload, 1) := by decide +kernel
theorem ddX_begin_16 : decode cX_begin 16 = .ok (.aload_n 1, 1) := by decide +kernel
theorem ddX_begin_17 : decode cX_begin 17 = .ok (.invokevirtual 40, 3) := by decide +kernel
theorem ddX_begin_20 : decode cX_begin 20 = .ok (.aload_n 0, 1) := by decide +kernel
theorem ddX_begin_21 : decode cX_begin 21 = .ok (.getfield 19, 3) := by decide +kernel
theorem ddX_begin_24 : decode cX_begin 24 = .ok (.iconst 0, 1) := by decide +kernel
theorem ddX_begin_25 : decode cX_begin 25 = .ok (.aaload, 1) := by decide +kernel
theorem ddX_begin_26 : decode cX_begin 26 = .ok (.invokevirtual 44, 3) := by decide +kernel
theorem ddX_begin_29 : decode cX_begin 29 = .ok (.aload_n 0, 1) := by decide +kernel
theorem ddX_begin_30 : decode cX_begin 30 = .ok (.getfield 23, 3) := by decide +kernel
theorem ddX_begin_33 : decode cX_begin 33 = .ok (.iconst 0, 1) := by decide +kernel
theorem ddX_begin_34 : decode cX_begin 34 = .ok (.aaload, 1) := by decide +kernel
theorem ddX_begin_35 : decode cX_begin 35 = .ok (.invokevirtual 44, 3) := by decide +kernel
theorem ddX_begin_38 : decode cX_begin 38 = .ok (.aload_n 0, 1) := by decide +kernel
theorem ddX_begin_39 : decode cX_begin 39 = .ok (.iconst 0, 1) := by decide +kernel
theorem ddX_begin_40 : decode cX_begin 40 = .ok (.putfield 47, 3) := by decide +kernel
theorem ddX_begin_43 : decode cX_begin 43 = .ok (.aload_n 0, 1) := by decide +kernel
theorem ddX_begin_44 : decode cX_begin 44 = .ok (.iconst 0, 1) := by decide +kernel
theorem ddX_begin_45 : decode cX_begin 45 = .ok (.putfield 51, 3) := by decide +kernel
theorem ddX_begin_48 : decode cX_begin 48 = .ok (.aload_n 0, 1) := by decide +kernel
theorem ddX_begin_49 : decode cX_begin 49 = .ok (.iconst 0, 1) := by decide +kernel
theorem ddX_begin_50 : decode cX_begin 50 = .ok (.putfield 54, 3) := by decide +kernel
theorem ddX_begin_53 : decode cX_begin 53 = .ok (.aload_n 0, 1) := by decide +kernel
theorem ddX_begin_54 : decode cX_begin 54 = .ok (.bipush 16, 2) := by decide +kernel
theorem ddX_begin_56 : decode cX_begin 56 = .ok (.putfield 57, 3) := by decide +kernel
theorem ddX_begin_59 : decode cX_begin 59 = .ok (.return_, 1) := by decide +kernel
set_option maxHeartbeats 2000000 in
theorem xX_begin {G : GXM} {l : Launch} (hG : GokM G) (d : Nat) (hd : 3 ≤ d) {v0 : Nat} {v1 : Nat} {v2 : Nat} {v3 : Nat} {M : Mem} {q : Mem} (h : fX_begin v0 v1 v2 v3 M = some q) : ExM G l d 0 0 yX_begin cX_begin 4 none [.ref v0, .ref v1, .ref v2, .ref v3] M none q := by
  refine ex_of hG (by decide +kernel) (Nat.le_of_ble_eq_true rfl) ?_
  intro X hl C E N hD hn
  show ZM G X 0 [(0, .ref v0), (1, .ref v1), (2, .ref v2), (3, .ref v3)] [] M 0 0
  unfold fX_begin at h
  refine zz_aload_n C 0 ddX_begin_0 rfl rfl ?_
  refine zz_aload_n C 2 ddX_begin_1 rfl rfl ?_
  obtain ⟨h1, h⟩ := gdN h
  obtain ⟨h2, h⟩ := gdN h
  refine zz_putr C ddX_begin_2 fl_X_33 (Or.inl rfl) rfl (fun _ => rfl) (fun _ => rfl) h1 (of_decide_eq_true h2) ?_
  refine zz_aload_n C 0 ddX_begin_5 rfl rfl ?_
  refine zz_aload_n C 3 ddX_begin_6 rfl rfl ?_
  obtain ⟨h3, h⟩ := gdN h
  refine zz_putr C ddX_begin_7 fl_X_37 (Or.inl rfl) rfl (fun _ => rfl) (fun _ => rfl) h1 (of_decide_eq_true h3) ?_
  refine zz_aload_n C 0 ddX_begin_10 rfl rfl ?_
  obtain ⟨h4, h⟩ := gdN h
  refine zz_getr C ddX_begin_11 fl_X_11 rfl h1 (of_decide_eq_true h4) ?_
  refine zz_iconst (v := 0) C ddX_begin_14 (by decide) ?_
  obtain ⟨h5, h⟩ := gdN h
  obtain ⟨h6, h⟩ := gdN h
  refine zz_aaload (t := 103) C ddX_begin_15 (by decide) (fun _ => rfl) h5 (of_decide_eq_true h6) ?_
  refine zz_aload_n C 1 ddX_begin_16 rfl rfl ?_
  obtain ⟨h8, h⟩ := gdN h
  obtain ⟨q7, hq7, h⟩ := bindN h
  refine zz_callV0 (As := [.ref v1]) C ddX_begin_17 wd_994 my_H_copyFrom mv_H_copyFrom ⟨_, rfl, rfl⟩ (xH_copyFrom hG (d - 1) (by omega) hq7) (by omega) h8 rfl rfl (Nat.le_of_ble_eq_true rfl) ?_
  refine zz_aload_n C 0 ddX_begin_20 rfl rfl ?_
  obtain ⟨h9, h⟩ := gdN h
  obtain ⟨h10, h⟩ := gdN h
  refine zz_getr C ddX_begin_21 fl_X_19 rfl h9 (of_decide_eq_true h10) ?_
  refine zz_iconst (v := 0) C ddX_begin_24 (by decide) ?_
  obtain ⟨h11, h⟩ := gdN h
  obtain ⟨h12, h⟩ := gdN h
  refine zz_aaload (t := 105) C ddX_begin_25 (by decide) (fun _ => rfl) h11 (of_decide_eq_true h12) ?_
  obtain ⟨h14, h⟩ := gdN h
  obtain ⟨q13, hq13, h⟩ := bindN h
  refine zz_callV0 (As := []) C ddX_begin_26 wd_995 my_G_restart mv_G_restart ⟨_, rfl, rfl⟩ (xG_restart hG (d - 1) (by omega) hq13) (by omega) h14 rfl rfl (Nat.le_of_ble_eq_true rfl) ?_
  refine zz_aload_n C 0 ddX_begin_29 rfl rfl ?_
  obtain ⟨h15, h⟩ := gdN h
  obtain ⟨h16, h⟩ := gdN h
  refine zz_getr C ddX_begin_30 fl_X_23 rfl h15 (of_decide_eq_true h16) ?_
  refine zz_iconst (v := 0) C ddX_begin_33 (by decide) ?_
  obtain ⟨h17, h⟩ := gdN h
  obtain ⟨h18, h⟩ := gdN h
  refine zz_aaload (t := 105) C ddX_begin_34 (by decide) (fun _ => rfl) h17 (of_decide_eq_true h18) ?_
  obtain ⟨h20, h⟩ := gdN h
  obtain ⟨q19, hq19, h⟩ := bindN h
  refine zz_callV0 (As := []) C ddX_begin_35 wd_995 my_G_restart mv_G_restart ⟨_, rfl, rfl⟩ (xG_restart hG (d - 1) (by omega) hq19) (by omega) h20 rfl rfl (Nat.le_of_ble_eq_true rfl) ?_
  refine zz_aload_n C 0 ddX_begin_38 rfl rfl ?_
  refine zz_iconst (v := 0) C ddX_begin_39 (by decide) ?_
  obtain ⟨h21, h⟩ := gdN h
  refine zz_puti C ddX_begin_40 fl_X_47 rfl rfl rfl h21 ?_
  refine zz_aload_n C 0 ddX_begin_43 rfl rfl ?_
  refine zz_iconst (v := 0) C ddX_begin_44 (by decide) ?_
  refine zz_puti C ddX_begin_45 fl_X_51 rfl rfl rfl h21 ?_
  refine zz_aload_n C 0 ddX_begin_48 rfl rfl ?_
  refine zz_iconst (v := 0) C ddX_begin_49 (by decide) ?_
  refine zz_puti C ddX_begin_50 fl_X_54 rfl rfl rfl h21 ?_
  refine zz_aload_n C 0 ddX_begin_53 rfl rfl ?_
  refine zz_bipush (v := 16) C ddX_begin_54 (by decide) ?_
  refine zz_puti C ddX_begin_56 fl_X_57 rfl rfl rfl h21 ?_
  obtain rfl := Option.some.inj h
  exact zz_vret C E ddX_begin_59
theorem ddX_tally_0 : decode cX_tally 0 = .ok (.aload_n 1, 1) := by decide +kernel
theorem ddX_tally_1 : decode cX_tally 1 = .ok (.invokevirtual 91, 3) := by decide +kernel
theorem ddX_tally_4 : decode cX_tally 4 = .ok (.istore_n 3, 1) := by decide +kernel
theorem ddX_tally_5 : decode cX_tally 5 = .ok (.aload_n 0, 1) := by decide +kernel
theorem ddX_tally_6 : decode cX_tally 6 = .ok (.dup, 1) := by decide +kernel
theorem ddX_tally_7 : decode cX_tally 7 = .ok (.getfield 47, 3) := by decide +kernel
theorem ddX_tally_10 : decode cX_tally 10 = .ok (.iload_n 2, 1) := by decide +kernel
theorem ddX_tally_11 : decode cX_tally 11 = .ok (.iadd, 1) := by decide +kernel
theorem ddX_tally_12 : decode cX_tally 12 = .ok (.putfield 47, 3) := by decide +kernel
theorem ddX_tally_15 : decode cX_tally 15 = .ok (.aload_n 0, 1) := by decide +kernel
theorem ddX_tally_16 : decode cX_tally 16 = .ok (.aload_n 0, 1) := by decide +kernel
theorem ddX_tally_17 : decode cX_tally 17 = .ok (.getfield 54, 3) := by decide +kernel
theorem ddX_tally_20 : decode cX_tally 20 = .ok (.iload_n 3, 1) := by decide +kernel
theorem ddX_tally_21 : decode cX_tally 21 = .ok (.invokestatic 95, 3) := by decide +kernel
theorem ddX_tally_24 : decode cX_tally 24 = .ok (.putfield 54, 3) := by decide +kernel
theorem ddX_tally_27 : decode cX_tally 27 = .ok (.aload_n 0, 1) := by decide +kernel
theorem ddX_tally_28 : decode cX_tally 28 = .ok (.aload_n 0, 1) := by decide +kernel
theorem ddX_tally_29 : decode cX_tally 29 = .ok (.getfield 57, 3) := by decide +kernel
theorem ddX_tally_32 : decode cX_tally 32 = .ok (.iload_n 3, 1) := by decide +kernel
theorem ddX_tally_33 : decode cX_tally 33 = .ok (.invokestatic 83, 3) := by decide +kernel
theorem ddX_tally_36 : decode cX_tally 36 = .ok (.putfield 57, 3) := by decide +kernel
theorem ddX_tally_39 : decode cX_tally 39 = .ok (.return_, 1) := by decide +kernel
set_option maxHeartbeats 2000000 in
theorem xX_tally {G : GXM} {l : Launch} (hG : GokM G) (d : Nat) (hd : 1 ≤ d) {v0 : Nat} {v1 : Nat} {v2 : Int32} {M : Mem} {q : Mem} (h : fX_tally v0 v1 v2 M = some q) : ExM G l d 0 0 yX_tally cX_tally 4 none [.ref v0, .ref v1, .int v2] M none q := by
  refine ex_of hG (by decide +kernel) (Nat.le_of_ble_eq_true rfl) ?_
  intro X hl C E N hD hn
  show ZM G X 0 [(0, .ref v0), (1, .ref v1), (2, .int v2)] [] M 0 0
  unfold fX_tally at h
  refine zz_aload_n C 1 ddX_tally_0 rfl rfl ?_
  obtain ⟨h2, h⟩ := gdN h
  obtain ⟨q1, hq1, h⟩ := bindN h
  refine zz_callV0 (As := []) C ddX_tally_1 wd_1004 my_H_pagesInUse mv_H_pagesInUse ⟨_, rfl, rfl⟩ (xH_pagesInUse hG (d - 1) (by omega) hq1) (by omega) h2 rfl rfl (Nat.le_of_ble_eq_true rfl) ?_
  refine zz_istore_n (L1 := [(3, .int q1.1), (0, .ref v0), (1, .ref v1), (2, .int v2)]) C ddX_tally_4 rfl N (by decide) rfl ?_
  refine zz_aload_n C 1 ddX_tally_5 rfl rfl ?_
  refine zz_dup C ddX_tally_6 rfl ?_
  obtain ⟨h3, h⟩ := gdN h
  refine zz_geti C ddX_tally_7 fl_X_47 rfl h3 ?_
  refine zz_iload_n C 3 ddX_tally_10 rfl rfl ?_
  refine zz_iadd C ddX_tally_11 ?_
  refine zz_puti C ddX_tally_12 fl_X_47 rfl rfl rfl h3 ?_
  refine zz_aload_n C 1 ddX_tally_15 rfl rfl ?_
  refine zz_aload_n C 1 ddX_tally_16 rfl rfl ?_
  refine zz_geti C ddX_tally_17 fl_X_54 rfl h3 ?_
  refine zz_iload_n C 0 ddX_tally_20 rfl rfl ?_
  obtain ⟨q4, hq4, h⟩ := bindN h
  refine zz_callS0 (As := [.int (giM (siM q1.2 v0 5 ((giM q1.2 v0 5) + v2)) v0 7), .int q1.1]) C ddX_tally_21 wd_1005 my_K_max mv_K_max (xK_max hG (d - 1) (by omega) hq4) (by omega) rfl rfl (Nat.le_of_ble_eq_true rfl) ?_
  obtain ⟨h5, h⟩ := gdN h
  refine zz_puti C ddX_tally_24 fl_X_54 rfl rfl rfl h5 ?_
  refine zz_aload_n C 1 ddX_tally_27 rfl rfl ?_
  refine zz_aload_n C 1 ddX_tally_28 rfl rfl ?_
  refine zz_geti C ddX_tally_29 fl_X_57 rfl h5 ?_
  refine zz_iload_n C 0 ddX_tally_32 rfl rfl ?_
  obtain ⟨q6, hq6, h⟩ := bindN h
  refine zz_callS0 (As := [.int (giM (siM q4.2 v0 7 q4.1) v0 8), .int q1.1]) C ddX_tally_33 wd_1006 my_K_min mv_K_min (xK_min hG (d - 1) (by omega) hq6) (by omega) rfl rfl (Nat.le_of_ble_eq_true rfl) ?_
  obtain ⟨h7, h⟩ := gdN h
  refine zz_puti C ddX_tally_36 fl_X_57 rfl rfl rfl h7 ?_
  obtain rfl := Option.some.inj h
  exact zz_vret C E ddX_tally_39
theorem ddG_copyFrom_0 : decode cG_copyFrom 0 = .ok (.aload_n 1, 1) := by decide +kernel
theorem ddG_copyFrom_1 : decode cG_copyFrom 1 = .ok (.getfield 9, 3) := by decide +kernel
theorem ddG_copyFrom_4 : decode cG_copyFrom 4 = .ok (.iconst 0, 1) := by decide +kernel
theorem ddG_copyFrom_5 : decode cG_copyFrom 5 = .ok (.aload_n 0, 1) := by decide +kernel
theorem ddG_copyFrom_6 : decode cG_copyFrom 6 = .ok (.getfield 9, 3) := by decide +kernel
theorem ddG_copyFrom_9 : decode cG_copyFrom 9 = .ok (.iconst 0, 1) := by decide +kernel
theorem ddG_copyFrom_10 : decode cG_copyFrom 10 = .ok (.bipush 24, 2) := by decide +kernel
theorem ddG_copyFrom_12 : decode cG_copyFrom 12 = .ok (.invokestatic 28, 3) := by decide +kernel
theorem ddG_copyFrom_15 : decode cG_copyFrom 15 = .ok (.aload_n 1, 1) := by decide +kernel
theorem ddG_copyFrom_16 : decode cG_copyFrom 16 = .ok (.getfield 15, 3) := by decide +kernel
theorem ddG_copyFrom_19 : decode cG_copyFrom 19 = .ok (.iconst 0, 1) := by decide +kernel
theorem ddG_copyFrom_20 : decode cG_copyFrom 20 = .ok (.aload_n 0, 1) := by decide +kernel
theorem ddG_copyFrom_21 : decode cG_copyFrom 21 = .ok (.getfield 15, 3) := by decide +kernel
theorem ddG_copyFrom_24 : decode cG_copyFrom 24 = .ok (.iconst 0, 1) := by decide +kernel
theorem ddG_copyFrom_25 : decode cG_copyFrom 25 = .ok (.bipush 24, 2) := by decide +kernel
theorem ddG_copyFrom_27 : decode cG_copyFrom 27 = .ok (.invokestatic 28, 3) := by decide +kernel
theorem ddG_copyFrom_30 : decode cG_copyFrom 30 = .ok (.aload_n 1, 1) := by decide +kernel
theorem ddG_copyFrom_31 : decode cG_copyFrom 31 = .ok (.getfield 18, 3) := by decide +kernel
theorem ddG_copyFrom_34 : decode cG_copyFrom 34 = .ok (.iconst 0, 1) := by decide +kernel
theorem ddG_copyFrom_35 : decode cG_copyFrom 35 = .ok (.aload_n 0, 1) := by decide +kernel
theorem ddG_copyFrom_36 : decode cG_copyFrom 36 = .ok (.getfield 18, 3) := by decide +kernel
theorem ddG_copyFrom_39 : decode cG_copyFrom 39 = .ok (.iconst 0, 1) := by decide +kernel
theorem ddG_copyFrom_40 : decode cG_copyFrom 40 = .ok (.bipush 24, 2) := by decide +kernel
theorem ddG_copyFrom_42 : decode cG_copyFrom 42 = .ok (.invokestatic 28, 3) := by decide +kernel
theorem ddG_copyFrom_45 : decode cG_copyFrom 45 = .ok (.aload_n 0, 1) := by decide +kernel
theorem ddG_copyFrom_46 : decode cG_copyFrom 46 = .ok (.aload_n 1, 1) := by decide +kernel
theorem ddG_copyFrom_47 : decode cG_copyFrom 47 = .ok (.getfield 21, 3) := by decide +kernel
theorem ddG_copyFrom_50 : decode cG_copyFrom 50 = .ok (.putfield 21, 3) := by decide +kernel
theorem ddG_copyFrom_53 : decode cG_copyFrom 53 = .ok (.aload_n 0, 1) := by decide +kernel
theorem ddG_copyFrom_54 : decode cG_copyFrom 54 = .ok (.aload_n 1, 1) := by decide +kernel
theorem ddG_copyFrom_55 : decode cG_copyFrom 55 = .ok (.getfield 25, 3) := by decide +kernel
theorem ddG_copyFrom_58 : decode cG_copyFrom 58 = .ok (.putfield 25, 3) := by decide +kernel
theorem ddG_copyFrom_61 : decode cG_copyFrom 61 = .ok (.return_, 1) := by decide +kernel
set_option maxHeartbeats 2000000 in
theorem xG_copyFrom {G : GXM} {l : Launch} (hG : GokM G) (d : Nat) (hd : 1 ≤ d) {v0 : Nat} {v1 : Nat} {M : Mem} {q : Mem} (h : fG_copyFrom v0 v1 M = some q) : ExM G l d 0 0 yG_copyFrom cG_copyFrom 2 none [.ref v0, .ref v1] M none q := by
  refine ex_of hG (by decide +kernel) (Nat.le_of_ble_eq_true rfl) ?_
  intro X hl C E N hD hn
  show ZM G X 0 [(0, .ref v0), (1, .ref v1)] [] M 0 0
  unfold fG_copyFrom at h
  refine zz_aload_n C 1 ddG_copyFrom_0 rfl rfl ?_
  obtain ⟨h1, h⟩ := gdN h
  obtain ⟨h2, h⟩ := gdN h
  refine zz_getr C ddG_copyFrom_1 fl_G_9 rfl h1 (of_decide_eq_true h2) ?_
  refine zz_iconst (v := 0) C ddG_copyFrom_4 (by decide) ?_
  refine zz_aload_n C 0 ddG_copyFrom_5 rfl rfl ?_
  obtain ⟨h3, h⟩ := gdN h
  obtain ⟨h4, h⟩ := gdN h
  refine zz_getr C ddG_copyFrom_6 fl_G_9 rfl h3 (of_decide_eq_true h4) ?_
  refine zz_iconst (v := 0) C ddG_copyFrom_9 (by decide) ?_
  refine zz_bipush (v := 24) C ddG_copyFrom_10 (by decide) ?_
  obtain ⟨h5, h⟩ := gdN h
  refine zz_copy C ddG_copyFrom_12 wd_1015 ⟨wd_362, wd_361, wd_14⟩ h5 (by omega) (Nat.le_of_ble_eq_true rfl) ?_
  refine zz_aload_n C 1 ddG_copyFrom_15 rfl rfl ?_
  obtain ⟨h6, h⟩ := gdN h
  refine zz_getr C ddG_copyFrom_16 fl_G_15 rfl h1 (of_decide_eq_true h6) ?_
  refine zz_iconst (v := 0) C ddG_copyFrom_19 (by decide) ?_
  refine zz_aload_n C 0 ddG_copyFrom_20 rfl rfl ?_
  obtain ⟨h7, h⟩ := gdN h
  refine zz_getr C ddG_copyFrom_21 fl_G_15 rfl h3 (of_decide_eq_true h7) ?_
  refine zz_iconst (v := 0) C ddG_copyFrom_24 (by decide) ?_
  refine zz_bipush (v := 24) C ddG_copyFrom_25 (by decide) ?_
  obtain ⟨h8, h⟩ := gdN h
  refine zz_copy C ddG_copyFrom_27 wd_1015 ⟨wd_362, wd_361, wd_14⟩ h8 (by omega) (Nat.le_of_ble_eq_true rfl) ?_
  refine zz_aload_n C 1 ddG_copyFrom_30 rfl rfl ?_
  obtain ⟨h9, h⟩ := gdN h
  refine zz_getr C ddG_copyFrom_31 fl_G_18 rfl h1 (of_decide_eq_true h9) ?_
  refine zz_iconst (v := 0) C ddG_copyFrom_34 (by decide) ?_
  refine zz_aload_n C 0 ddG_copyFrom_35 rfl rfl ?_
  obtain ⟨h10, h⟩ := gdN h
  refine zz_getr C ddG_copyFrom_36 fl_G_18 rfl h3 (of_decide_eq_true h10) ?_
  refine zz_iconst (v := 0) C ddG_copyFrom_39 (by decide) ?_
  refine zz_bipush (v := 24) C ddG_copyFrom_40 (by decide) ?_
  obtain ⟨h11, h⟩ := gdN h
  refine zz_copy C ddG_copyFrom_42 wd_1015 ⟨wd_362, wd_361, wd_14⟩ h11 (by omega) (Nat.le_of_ble_eq_true rfl) ?_
  refine zz_aload_n C 0 ddG_copyFrom_45 rfl rfl ?_
  refine zz_aload_n C 1 ddG_copyFrom_46 rfl rfl ?_
  refine zz_geti C ddG_copyFrom_47 fl_G_21 rfl h1 ?_
  refine zz_puti C ddG_copyFrom_50 fl_G_21 rfl rfl rfl h3 ?_
  refine zz_aload_n C 0 ddG_copyFrom_53 rfl rfl ?_
  refine zz_aload_n C 1 ddG_copyFrom_54 rfl rfl ?_
  refine zz_geti C ddG_copyFrom_55 fl_G_25 rfl h1 ?_
  refine zz_puti C ddG_copyFrom_58 fl_G_25 rfl rfl rfl h3 ?_
  obtain rfl := Option.some.inj h
  exact zz_vret C E ddG_copyFrom_61
theorem ddX_deepen_0 : decode cX_deepen 0 = .ok (.iload_n 1, 1) := by decide +kernel
theorem ddX_deepen_1 : decode cX_deepen 1 = .ok (.iconst 1, 1) := by decide +kernel
theorem ddX_deepen_2 : decode cX_deepen 2 = .ok (.iadd, 1) := by decide +kernel
theorem ddX_deepen_3 : decode cX_deepen 3 = .ok (.aload_n 0, 1) := by decide +kernel
theorem ddX_deepen_4 : decode cX_deepen 4 = .ok (.getfield 11, 3) := by decide +kernel
theorem ddX_deepen_7 : decode cX_deepen 7 = .ok (.arraylength, 1) := by decide +kernel
theorem ddX_deepen_8 : decode cX_deepen 8 = .ok (.iconst 1, 1) := by decide +kernel
theorem ddX_deepen_9 : decode cX_deepen 9 = .ok (.isub, 1) := by decide +kernel
theorem ddX_deepen_10 : decode cX_deepen 10 = .ok (.invokestatic 83, 3) := by decide +kernel
theorem ddX_deepen_13 : decode cX_deepen 13 = .ok (.istore_n 2, 1) := by decide +kernel
theorem ddX_deepen_14 : decode cX_deepen 14 = .ok (.aload_n 0, 1) := by decide +kernel
theorem ddX_deepen_15 : decode cX_deepen 15 = .ok (.getfield 11, 3) := by decide +kernel
theorem ddX_deepen_18 : decode cX_deepen 18 = .ok (.iload_n 2, 1) := by decide +kernel
theorem ddX_deepen_19 : decode cX_deepen 19 = .ok (.aaload, 1) := by decide +kernel
theorem ddX_deepen_20 : decode cX_deepen 20 = .ok (.aload_n 0, 1) := by decide +kernel
theorem ddX_deepen_21 : decode cX_deepen 21 = .ok (.getfield 11, 3) := by decide +kernel
theorem ddX_deepen_24 : decode cX_deepen 24 = .ok (.iload_n 1, 1) := by decide +kernel
theorem ddX_deepen_25 : decode cX_deepen 25 = .ok (.aaload, 1) := by decide +kernel
theorem ddX_deepen_26 : decode cX_deepen 26 = .ok (.invokevirtual 40, 3) := by decide +kernel
theorem ddX_deepen_29 : decode cX_deepen 29 = .ok (.aload_n 0, 1) := by decide +kernel
theorem ddX_deepen_30 : decode cX_deepen 30 = .ok (.getfield 19, 3) := by decide +kernel
theorem ddX_deepen_33 : decode cX_deepen 33 = .ok (.iload_n 2, 1) := by decide +kernel
theorem ddX_deepen_34 : decode cX_deepen 34 = .ok (.aaload, 1) := by decide +kernel
theorem ddX_deepen_35 : decode cX_deepen 35 = .ok (.aload_n 0, 1) := by decide +kernel
theorem ddX_deepen_36 : decode cX_deepen 36 = .ok (.getfield 19, 3) := by decide +kernel
theorem ddX_deepen_39 : decode cX_deepen 39 = .ok (.iload_n 1, 1) := by decide +kernel
theorem ddX_deepen_40 : decode cX_deepen 40 = .ok (.aaload, 1) := by decide +kernel
theorem ddX_deepen_41 : decode cX_deepen 41 = .ok (.invokevirtual 88, 3) := by decide +kernel
theorem ddX_deepen_44 : decode cX_deepen 44 = .ok (.aload_n 0, 1) := by decide +kernel
theorem ddX_deepen_45 : decode cX_deepen 45 = .ok (.getfield 23, 3) := by decide +kernel
theorem ddX_deepen_48 : decode cX_deepen 48 = .ok (.iload_n 2, 1) := by decide +kernel
theorem ddX_deepen_49 : decode cX_deepen 49 = .ok (.aaload, 1) := by decide +kernel
theorem ddX_deepen_50 : decode cX_deepen 50 = .ok (.aload_n 0, 1) := by decide +kernel
theorem ddX_deepen_51 : decode cX_deepen 51 = .ok (.getfield 23, 3) := by decide +kernel
theorem ddX_deepen_54 : decode cX_deepen 54 = .ok (.iload_n 1, 1) := by decide +kernel
theorem ddX_deepen_55 : decode cX_deepen 55 = .ok (.aaload, 1) := by decide +kernel
theorem ddX_deepen_56 : decode cX_deepen 56 = .ok (.invokevirtual 88, 3) := by decide +kernel
theorem ddX_deepen_59 : decode cX_deepen 59 = .ok (.iload_n 2, 1) := by decide +kernel
theorem ddX_deepen_60 : decode cX_deepen 60 = .ok (.ireturn, 1) := by decide +kernel
set_option maxHeartbeats 2000000 in
theorem xX_deepen {G : GXM} {l : Launch} (hG : GokM G) (d : Nat) (hd : 3 ≤ d) {v0 : Nat} {v1 : Int32} {M : Mem} {q : Int32 × Mem} (h : fX_deepen v0 v1 M = some q) : ExM G l d 0 0 yX_deepen cX_deepen 3 (some .int) [.ref v0, .int v1] M (some (.int q.1)) q.2 := by
  refine ex_of hG (by decide +kernel) (Nat.le_of_ble_eq_true rfl) ?_
  intro X hl C E N hD hn
  show ZM G X 0 [(0, .ref v0), (1, .int v1)] [] M 0 0
  unfold fX_deepen at h
  refine zz_iload_n C 1 ddX_deepen_0 rfl rfl ?_
  refine zz_iconst (v := 1) C ddX_deepen_1 (by decide) ?_
  refine zz_iadd C ddX_deepen_2 ?_
  refine zz_aload_n C 0 ddX_deepen_3 rfl rfl ?_
  obtain ⟨h1, h⟩ := gdN h
  obtain ⟨h2, h⟩ := gdN h
  refine zz_getr C ddX_deepen_4 fl_X_11 rfl h1 (of_decide_eq_true h2) ?_
  obtain ⟨h3, h⟩ := gdN h
  refine zz_alenR (t := 103) C ddX_deepen_7 (by decide) (fun _ => rfl) h3 ?_
  refine zz_iconst (v := 1) C ddX_deepen_8 (by decide) ?_
  refine zz_isub C ddX_deepen_9 ?_
  obtain ⟨q4, hq4, h⟩ := bindN h
  refine zz_callS0 (As := [.int (v1 + 1), .int ((Int32.ofNat (tgM M (grM M v0 0)).2) - 1)]) C ddX_deepen_10 wd_1006 my_K_min mv_K_min (xK_min hG (d - 1) (by omega) hq4) (by omega) rfl rfl (Nat.le_of_ble_eq_true rfl) ?_
  refine zz_istore_n (L1 := [(2, .int q4.1), (0, .ref v0), (1, .int v1)]) C ddX_deepen_13 rfl N (by decide) rfl ?_
  refine zz_aload_n C 1 ddX_deepen_14 rfl rfl ?_
  obtain ⟨h5, h⟩ := gdN h
  obtain ⟨h6, h⟩ := gdN h
  refine zz_getr C ddX_deepen_15 fl_X_11 rfl h5 (of_decide_eq_true h6) ?_
  refine zz_iload_n C 0 ddX_deepen_18 rfl rfl ?_
  obtain ⟨h7, h⟩ := gdN h
  obtain ⟨h8, h⟩ := gdN h
  refine zz_aaload (t := 103) C ddX_deepen_19 (by decide) (fun _ => rfl) h7 (of_decide_eq_true h8) ?_
  refine zz_aload_n C 1 ddX_deepen_20 rfl rfl ?_
  refine zz_getr C ddX_deepen_21 fl_X_11 rfl h5 (of_decide_eq_true h6) ?_
  refine zz_iload_n C 2 ddX_deepen_24 rfl rfl ?_
  obtain ⟨h9, h⟩ := gdN h
  obtain ⟨h10, h⟩ := gdN h
  refine zz_aaload (t := 103) C ddX_deepen_25 (by decide) (fun _ => rfl) h9 (of_decide_eq_true h10) ?_
  obtain ⟨h12, h⟩ := gdN h
  obtain ⟨q11, hq11, h⟩ := bindN h
  refine zz_callV0 (As := [.ref (grM q4.2 (grM q4.2 v0 0) (Int32.toNatClampNeg v1))]) C ddX_deepen_26 wd_994 my_H_copyFrom mv_H_copyFrom ⟨_, rfl, rfl⟩ (xH_copyFrom hG (d - 1) (by omega) hq11) (by omega) h12 rfl rfl (Nat.le_of_ble_eq_true rfl) ?_
  refine zz_aload_n C 1 ddX_deepen_29 rfl rfl ?_
  obtain ⟨h13, h⟩ := gdN h
  obtain ⟨h14, h⟩ := gdN h
  refine zz_getr C ddX_deepen_30 fl_X_19 rfl h13 (of_decide_eq_true h14) ?_
  refine zz_iload_n C 0 ddX_deepen_33 rfl rfl ?_
  obtain ⟨h15, h⟩ := gdN h
  obtain ⟨h16, h⟩ := gdN h
  refine zz_aaload (t := 105) C ddX_deepen_34 (by decide) (fun _ => rfl) h15 (of_decide_eq_true h16) ?_
  refine zz_aload_n C 1 ddX_deepen_35 rfl rfl ?_
  refine zz_getr C ddX_deepen_36 fl_X_19 rfl h13 (of_decide_eq_true h14) ?_
  refine zz_iload_n C 2 ddX_deepen_39 rfl rfl ?_
  obtain ⟨h17, h⟩ := gdN h
  obtain ⟨h18, h⟩ := gdN h
  refine zz_aaload (t := 105) C ddX_deepen_40 (by decide) (fun _ => rfl) h17 (of_decide_eq_true h18) ?_
  obtain ⟨h20, h⟩ := gdN h
  obtain ⟨q19, hq19, h⟩ := bindN h
  refine zz_callV0 (As := [.ref (grM q11 (grM q11 v0 1) (Int32.toNatClampNeg v1))]) C ddX_deepen_41 wd_1011 my_G_copyFrom mv_G_copyFrom ⟨_, rfl, rfl⟩ (xG_copyFrom hG (d - 1) (by omega) hq19) (by omega) h20 rfl rfl (Nat.le_of_ble_eq_true rfl) ?_
  refine zz_aload_n C 1 ddX_deepen_44 rfl rfl ?_
  obtain ⟨h21, h⟩ := gdN h
  obtain ⟨h22, h⟩ := gdN h
  refine zz_getr C ddX_deepen_45 fl_X_23 rfl h21 (of_decide_eq_true h22) ?_
  refine zz_iload_n C 0 ddX_deepen_48 rfl rfl ?_
  obtain ⟨h23, h⟩ := gdN h
  obtain ⟨h24, h⟩ := gdN h
  refine zz_aaload (t := 105) C ddX_deepen_49 (by decide) (fun _ => rfl) h23 (of_decide_eq_true h24) ?_
  refine zz_aload_n C 1 ddX_deepen_50 rfl rfl ?_
  refine zz_getr C ddX_deepen_51 fl_X_23 rfl h21 (of_decide_eq_true h22) ?_
  refine zz_iload_n C 2 ddX_deepen_54 rfl rfl ?_
  obtain ⟨h25, h⟩ := gdN h
  obtain ⟨h26, h⟩ := gdN h
  refine zz_aaload (t := 105) C ddX_deepen_55 (by decide) (fun _ => rfl) h25 (of_decide_eq_true h26) ?_
  obtain ⟨h28, h⟩ := gdN h
  obtain ⟨q27, hq27, h⟩ := bindN h
  refine zz_callV0 (As := [.ref (grM q19 (grM q19 v0 2) (Int32.toNatClampNeg v1))]) C ddX_deepen_56 wd_1011 my_G_copyFrom mv_G_copyFrom ⟨_, rfl, rfl⟩ (xG_copyFrom hG (d - 1) (by omega) hq27) (by omega) h28 rfl rfl (Nat.le_of_ble_eq_true rfl) ?_
  refine zz_iload_n C 0 ddX_deepen_59 rfl rfl ?_
  obtain rfl := Option.some.inj h
  exact zz_iret C E ddX_deepen_60
theorem ddX_waysOf_0 : decode cX_waysOf 0 = .ok (.iconst 1, 1) := by decide +kernel
theorem ddX_waysOf_1 : decode cX_waysOf 1 = .ok (.istore_n 2, 1) := by decide +kernel
theorem ddX_waysOf_2 : decode cX_waysOf 2 = .ok (.iconst 1, 1) := by decide +kernel
theorem ddX_waysOf_3 : decode cX_waysOf 3 = .ok (.istore_n 3, 1) := by decide +kernel
theorem ddX_waysOf_4 : decode cX_waysOf 4 = .ok (.iload_n 3, 1) := by decide +kernel
theorem ddX_waysOf_5 : decode cX_waysOf 5 = .ok (.iload_n 1, 1) := by decide +kernel
theorem ddX_waysOf_6 : decode cX_waysOf 6 = .ok (.if_icmp .gt 17, 3) := by decide +kernel
theorem ddX_waysOf_9 : decode cX_waysOf 9 = .ok (.iload_n 2, 1) := by decide +kernel
theorem ddX_waysOf_10 : decode cX_waysOf 10 = .ok (.iload_n 0, 1) := by decide +kernel
theorem ddX_waysOf_11 : decode cX_waysOf 11 = .ok (.iload_n 3, 1) := by decide +kernel
theorem ddX_waysOf_12 : decode cX_waysOf 12 = .ok (.iadd, 1) := by decide +kernel
theorem ddX_waysOf_13 : decode cX_waysOf 13 = .ok (.imul, 1) := by decide +kernel
theorem ddX_waysOf_14 : decode cX_waysOf 14 = .ok (.iload_n 3, 1) := by decide +kernel
theorem ddX_waysOf_15 : decode cX_waysOf 15 = .ok (.idiv, 1) := by decide +kernel
theorem ddX_waysOf_16 : decode cX_waysOf 16 = .ok (.istore_n 2, 1) := by decide +kernel
theorem ddX_waysOf_17 : decode cX_waysOf 17 = .ok (.iinc 3 1, 3) := by decide +kernel
theorem ddX_waysOf_20 : decode cX_waysOf 20 = .ok (.goto (-16), 3) := by decide +kernel
theorem ddX_waysOf_23 : decode cX_waysOf 23 = .ok (.iload_n 2, 1) := by decide +kernel
theorem ddX_waysOf_24 : decode cX_waysOf 24 = .ok (.ireturn, 1) := by decide +kernel
set_option maxHeartbeats 2000000 in
theorem zBX_waysOf_4 {G : GXM} {X : CxM} (hG : GokM G) (C : CoM G X cX_waysOf "HomeFreed$Mixer") (N : mLM X = 4) {d : Nat} (hD : dpM X = d) (hd : 0 ≤ d) {v0 : Int32} {v1 : Int32} {K : Int32 → Int32 → Int32 → Int32 → Mem → Option ((Int32 × Mem))} {q : (Int32 × Mem)} (hK : ∀ (v2 : Int32) (v3 : Int32) (M : Mem), K v0 v1 v2 v3 M = some q → ZM G X 4 [(0, .int v0), (1, .int v1), (2, .int v2), (3, .int v3)] [] M 0 0) (hr : ∀ r : Int32 × Mem, q =  r → EnM G X (some .int) (some (.int r.1)) r.2 0 0) {v2 : Int32} {v3 : Int32} {M : Mem} (h : BX_waysOf_4 K v0 v1 v2 v3 M = some q) : ZM G X 4 [(0, .int v0), (1, .int v1), (2, .int v2), (3, .int v3)] [] M 0 0 := by
  unfold BX_waysOf_4 at h
  refine zz_iload_n C 3 ddX_waysOf_4 rfl rfl ?_
  refine zz_iload_n C 1 ddX_waysOf_5 rfl rfl ?_
  refine zz_icmp_gt (tgt := 23) C ddX_waysOf_6 rfl (fun hc => ?_) (fun hc => ?_)
  · replace h := iteT h hc
    refine zz_iload_n C 2 ddX_waysOf_23 rfl rfl ?_
    exact zz_iret C (hr _ (Option.some.inj h).symm) ddX_waysOf_24
  · replace h := iteF h hc
    refine zz_iload_n C 2 ddX_waysOf_9 rfl rfl ?_
    refine zz_iload_n C 0 ddX_waysOf_10 rfl rfl ?_
    refine zz_iload_n C 3 ddX_waysOf_11 rfl rfl ?_
    refine zz_iadd C ddX_waysOf_12 ?_
    refine zz_imul C ddX_waysOf_13 ?_
    refine zz_iload_n C 3 ddX_waysOf_14 rfl rfl ?_
    obtain ⟨h1, h⟩ := gdN h
    refine zz_idiv C ddX_waysOf_15 (of_decide_eq_true h1) ?_
    refine zz_istore_n (L1 := [(2, .int ((v2 * (v0 + v3)) / v3)), (0, .int v0), (1, .int v1), (3, .int v3)]) C ddX_waysOf_16 rfl N (by decide) rfl ?_
    refine zz_iinc (v := v3 + 1) (L1 := [(3, .int (v3 + 1)), (2, .int ((v2 * (v0 + v3)) / v3)), (0, .int v0), (1, .int v1)]) C 3 ddX_waysOf_17 rfl rfl N (by decide) rfl ?_
    refine zz_goto (tgt := 4) C ddX_waysOf_20 rfl ?_
    refine zz_loc (L1 := [(0, .int v0), (1, .int v1), (2, .int ((v2 * (v0 + v3)) / v3)), (3, .int (v3 + 1))]) [2, 3, 1, 0] rfl ?_
    exact hK _ _ _ h
set_option maxHeartbeats 2000000 in
theorem zLX_waysOf_4 {G : GXM} {X : CxM} (hG : GokM G) (C : CoM G X cX_waysOf "HomeFreed$Mixer") (N : mLM X = 4) {d : Nat} (hD : dpM X = d) (hd : 0 ≤ d) {v0 : Int32} {v1 : Int32} {q : (Int32 × Mem)} : ∀ (f : Nat) (v2 : Int32) (v3 : Int32) (M : Mem), LX_waysOf_4 f v0 v1 v2 v3 M = some q → (hr : ∀ r : Int32 × Mem, q =  r → EnM G X (some .int) (some (.int r.1)) r.2 0 0) → ZM G X 4 [(0, .int v0), (1, .int v1), (2, .int v2), (3, .int v3)] [] M 0 0 := by
  intro f
  induction f with
  | zero => intro v2 v3 M h; cases h
  | succ f ih =>
    intro v2 v3 M h hr
    exact zBX_waysOf_4 hG C N hD hd (K := LX_waysOf_4 f) (q := q) (fun v2 v3 M h => ih v2 v3 M h hr) hr h
set_option maxHeartbeats 2000000 in
theorem xX_waysOf {G : GXM} {l : Launch} (hG : GokM G) (d : Nat) (hd : 0 ≤ d) {v0 : Int32} {v1 : Int32} {M : Mem} {q : Int32 × Mem} (h : fX_waysOf v0 v1 M = some q) : ExM G l d 0 0 yX_waysOf cX_waysOf 4 (some .int) [.int v0, .int v1] M (some (.int q.1)) q.2 := by
  refine ex_of hG (by decide +kernel) (Nat.le_of_ble_eq_true rfl) ?_
  intro X hl C E N hD hn
  show ZM G X 0 [(0, .int v0), (1, .int v1)] [] M 0 0
  unfold fX_waysOf at h
  refine zz_iconst (v := 1) C ddX_waysOf_0 (by decide) ?_
  refine zz_istore_n (L1 := [(2, .int 1), (0, .int v0), (1, .int v1)]) C ddX_waysOf_1 rfl N (by decide) rfl ?_
  refine zz_iconst (v := 1) C ddX_waysOf_2 (by decide) ?_
  refine zz_istore_n (L1 := [(3, .int 1), (2, .int 1), (0, .int v0), (1, .int v1)]) C ddX_waysOf_3 rfl N (by decide) rfl ?_
  refine zz_loc (L1 := [(0, .int v0), (1, .int v1), (2, .int 1), (3, .int 1)]) [2, 3, 1, 0] rfl ?_
  obtain ⟨q1, hq1, h⟩ := bindN h
  refine zLX_waysOf_4 hG C N hD hd 1000000 _ _ _ hq1 ?_
  · intro r2 eq1; replace eq1 := eq1.symm; subst eq1
    obtain rfl := Option.some.inj h
    exact E
theorem ddX_mix_0 : decode cX_mix 0 = .ok (.iload_n 1, 1) := by decide +kernel
theorem ddX_mix_1 : decode cX_mix 1 = .ok (.aload_n 0, 1) := by decide +kernel
theorem ddX_mix_2 : decode cX_mix 2 = .ok (.getfield 11, 3) := by decide +kernel
theorem ddX_mix_5 : decode cX_mix 5 = .ok (.arraylength, 1) := by decide +kernel
theorem ddX_mix_6 : decode cX_mix 6 = .ok (.if_icmp .ge 15, 3) := by decide +kernel
theorem ddX_mix_9 : decode cX_mix 9 = .ok (.iload_n 2, 1) := by decide +kernel
theorem ddX_mix_10 : decode cX_mix 10 = .ok (.bipush 6, 2) := by decide +kernel
theorem ddX_mix_12 : decode cX_mix 12 = .ok (.if_icmp .gt 9, 3) := by decide +kernel
theorem ddX_mix_15 : decode cX_mix 15 = .ok (.iload_n 3, 1) := by decide +kernel
theorem ddX_mix_16 : decode cX_mix 16 = .ok (.bipush 6, 2) := by decide +kernel
theorem ddX_mix_18 : decode cX_mix 18 = .ok (.if_icmp .le 4, 3) := by decide +kernel
theorem ddX_mix_21 : decode cX_mix 21 = .ok (.return_, 1) := by decide +kernel
theorem ddX_mix_22 : decode cX_mix 22 = .ok (.aload_n 0, 1) := by decide +kernel
theorem ddX_mix_23 : decode cX_mix 23 = .ok (.getfield 33, 3) := by decide +kernel
theorem ddX_mix_26 : decode cX_mix 26 = .ok (.getfield 60, 3) := by decide +kernel
theorem ddX_mix_29 : decode cX_mix 29 = .ok (.iload_n 2, 1) := by decide +kernel
theorem ddX_mix_30 : decode cX_mix 30 = .ok (.isub, 1) := by decide +kernel
theorem ddX_mix_31 : decode cX_mix 31 = .ok (.istore 4, 2) := by decide +kernel
theorem ddX_mix_33 : decode cX_mix 33 = .ok (.aload_n 0, 1) := by decide +kernel
theorem ddX_mix_34 : decode cX_mix 34 = .ok (.getfield 37, 3) := by decide +kernel
theorem ddX_mix_37 : decode cX_mix 37 = .ok (.getfield 60, 3) := by decide +kernel
theorem ddX_mix_40 : decode cX_mix 40 = .ok (.iload_n 3, 1) := by decide +kernel
theorem ddX_mix_41 : decode cX_mix 41 = .ok (.isub, 1) := by decide +kernel
theorem ddX_mix_42 : decode cX_mix 42 = .ok (.istore 5, 2) := by decide +kernel
theorem ddX_mix_44 : decode cX_mix 44 = .ok (.iload 4, 2) := by decide +kernel
theorem ddX_mix_46 : decode cX_mix 46 = .ok (.ifCond .gt 30, 3) := by decide +kernel
theorem ddX_mix_49 : decode cX_mix 49 = .ok (.iload 5, 2) := by decide +kernel
theorem ddX_mix_51 : decode cX_mix 51 = .ok (.ifCond .gt 25, 3) := by decide +kernel
theorem ddX_mix_54 : decode cX_mix 54 = .ok (.aload_n 0, 1) := by decide +kernel
theorem ddX_mix_55 : decode cX_mix 55 = .ok (.dup, 1) := by decide +kernel
theorem ddX_mix_56 : decode cX_mix 56 = .ok (.getfield 51, 3) := by decide +kernel
theorem ddX_mix_59 : decode cX_mix 59 = .ok (.iconst 1, 1) := by decide +kernel
theorem ddX_mix_60 : decode cX_mix 60 = .ok (.iadd, 1) := by decide +kernel
theorem ddX_mix_61 : decode cX_mix 61 = .ok (.putfield 51, 3) := by decide +kernel
theorem ddX_mix_64 : decode cX_mix 64 = .ok (.aload_n 0, 1) := by decide +kernel
theorem ddX_mix_65 : decode cX_mix 65 = .ok (.aload_n 0, 1) := by decide +kernel
theorem ddX_mix_66 : decode cX_mix 66 = .ok (.getfield 11, 3) := by decide +kernel
theorem ddX_mix_69 : decode cX_mix 69 = .ok (.iload_n 1, 1) := by decide +kernel
theorem ddX_mix_70 : decode cX_mix 70 = .ok (.aaload, 1) := by decide +kernel
theorem ddX_mix_71 : decode cX_mix 71 = .ok (.iconst 1, 1) := by decide +kernel
theorem ddX_mix_72 : decode cX_mix 72 = .ok (.invokevirtual 63, 3) := by decide +kernel
theorem ddX_mix_75 : decode cX_mix 75 = .ok (.return_, 1) := by decide +kernel
theorem ddX_mix_76 : decode cX_mix 76 = .ok (.iload 4, 2) := by decide +kernel
theorem ddX_mix_78 : decode cX_mix 78 = .ok (.ifCond .le 77, 3) := by decide +kernel
theorem ddX_mix_81 : decode cX_mix 81 = .ok (.iload 5, 2) := by decide +kernel
theorem ddX_mix_83 : decode cX_mix 83 = .ok (.ifCond .le 11, 3) := by decide +kernel
theorem ddX_mix_86 : decode cX_mix 86 = .ok (.aload_n 0, 1) := by decide +kernel
theorem ddX_mix_87 : decode cX_mix 87 = .ok (.iload_n 1, 1) := by decide +kernel
theorem ddX_mix_88 : decode cX_mix 88 = .ok (.invokevirtual 67, 3) := by decide +kernel
theorem ddX_mix_91 : decode cX_mix 91 = .ok (.goto 4, 3) := by decide +kernel
theorem ddX_mix_94 : decode cX_mix 94 = .ok (.iload_n 1, 1) := by decide +kernel
theorem ddX_mix_95 : decode cX_mix 95 = .ok (.istore 6, 2) := by decide +kernel
theorem ddX_mix_97 : decode cX_mix 97 = .ok (.aload_n 0, 1) := by decide +kernel
theorem ddX_mix_98 : decode cX_mix 98 = .ok (.getfield 19, 3) := by decide +kernel
theorem ddX_mix_101 : decode cX_mix 101 = .ok (.iload 6, 2) := by decide +kernel
theorem ddX_mix_103 : decode cX_mix 103 = .ok (.aaload, 1) := by decide +kernel
theorem ddX_mix_104 : decode cX_mix 104 = .ok (.aload_n 0, 1) := by decide +kernel
theorem ddX_mix_105 : decode cX_mix 105 = .ok (.getfield 11, 3) := by decide +kernel
theorem ddX_mix_108 : decode cX_mix 108 = .ok (.iload 6, 2) := by decide +kernel
theorem ddX_mix_110 : decode cX_mix 110 = .ok (.aaload, 1) := by decide +kernel
theorem ddX_mix_111 : decode cX_mix 111 = .ok (.aload_n 0, 1) := by decide +kernel
theorem ddX_mix_112 : decode cX_mix 112 = .ok (.getfield 33, 3) := by decide +kernel
theorem ddX_mix_115 : decode cX_mix 115 = .ok (.iload_n 2, 1) := by decide +kernel
theorem ddX_mix_116 : decode cX_mix 116 = .ok (.invokevirtual 71, 3) := by decide +kernel
theorem ddX_mix_119 : decode cX_mix 119 = .ok (.ifCond .eq 16, 3) := by decide +kernel
theorem ddX_mix_122 : decode cX_mix 122 = .ok (.aload_n 0, 1) := by decide +kernel
theorem ddX_mix_123 : decode cX_mix 123 = .ok (.iload 6, 2) := by decide +kernel
theorem ddX_mix_125 : decode cX_mix 125 = .ok (.iload_n 2, 1) := by decide +kernel
theorem ddX_mix_126 : decode cX_mix 126 = .ok (.iconst 1, 1) := by decide +kernel
theorem ddX_mix_127 : decode cX_mix 127 = .ok (.iadd, 1) := by decide +kernel
theorem ddX_mix_128 : decode cX_mix 128 = .ok (.iload_n 3, 1) := by decide +kernel
theorem ddX_mix_129 : decode cX_mix 129 = .ok (.invokevirtual 75, 3) := by decide +kernel
theorem ddX_mix_132 : decode cX_mix 132 = .ok (.goto 23, 3) := by decide +kernel
theorem ddX_mix_135 : decode cX_mix 135 = .ok (.aload_n 0, 1) := by decide +kernel
theorem ddX_mix_136 : decode cX_mix 136 = .ok (.aload_n 0, 1) := by decide +kernel
theorem ddX_mix_137 : decode cX_mix 137 = .ok (.getfield 11, 3) := by decide +kernel
theorem ddX_mix_140 : decode cX_mix 140 = .ok (.iload 6, 2) := by decide +kernel
theorem ddX_mix_142 : decode cX_mix 142 = .ok (.aaload, 1) := by decide +kernel
theorem ddX_mix_143 : decode cX_mix 143 = .ok (.iload 4, 2) := by decide +kernel
theorem ddX_mix_145 : decode cX_mix 145 = .ok (.iconst 1, 1) := by decide +kernel
theorem ddX_mix_146 : decode cX_mix 146 = .ok (.isub, 1) := by decide +kernel
theorem ddX_mix_147 : decode cX_mix 147 = .ok (.iload 5, 2) := by decide +kernel
theorem ddX_mix_149 : decode cX_mix 149 = .ok (.invokestatic 79, 3) := by decide +kernel
theorem ddX_mix_152 : decode cX_mix 152 = .ok (.invokevirtual 63, 3) := by decide +kernel
theorem ddX_mix_155 : decode cX_mix 155 = .ok (.iload 5, 2) := by decide +kernel
theorem ddX_mix_157 : decode cX_mix 157 = .ok (.ifCond .le 57, 3) := by decide +kernel
theorem ddX_mix_160 : decode cX_mix 160 = .ok (.aload_n 0, 1) := by decide +kernel
theorem ddX_mix_161 : decode cX_mix 161 = .ok (.getfield 23, 3) := by decide +kernel
theorem ddX_mix_164 : decode cX_mix 164 = .ok (.iload_n 1, 1) := by decide +kernel
theorem ddX_mix_165 : decode cX_mix 165 = .ok (.aaload, 1) := by decide +kernel
theorem ddX_mix_166 : decode cX_mix 166 = .ok (.aload_n 0, 1) := by decide +kernel
theorem ddX_mix_167 : decode cX_mix 167 = .ok (.getfield 11, 3) := by decide +kernel
theorem ddX_mix_170 : decode cX_mix 170 = .ok (.iload_n 1, 1) := by decide +kernel
theorem ddX_mix_171 : decode cX_mix 171 = .ok (.aaload, 1) := by decide +kernel
theorem ddX_mix_172 : decode cX_mix 172 = .ok (.aload_n 0, 1) := by decide +kernel
theorem ddX_mix_173 : decode cX_mix 173 = .ok (.getfield 37, 3) := by decide +kernel
theorem ddX_mix_176 : decode cX_mix 176 = .ok (.iload_n 3, 1) := by decide +kernel
theorem ddX_mix_177 : decode cX_mix 177 = .ok (.invokevirtual 71, 3) := by decide +kernel
theorem ddX_mix_180 : decode cX_mix 180 = .ok (.ifCond .eq 15, 3) := by decide +kernel
theorem ddX_mix_183 : decode cX_mix 183 = .ok (.aload_n 0, 1) := by decide +kernel
theorem ddX_mix_184 : decode cX_mix 184 = .ok (.iload_n 1, 1) := by decide +kernel
theorem ddX_mix_185 : decode cX_mix 185 = .ok (.iload_n 2, 1) := by decide +kernel
theorem ddX_mix_186 : decode cX_mix 186 = .ok (.iload_n 3, 1) := by decide +kernel
theorem ddX_mix_187 : decode cX_mix 187 = .ok (.iconst 1, 1) := by decide +kernel
theorem ddX_mix_188 : decode cX_mix 188 = .ok (.iadd, 1) := by decide +kernel
theorem ddX_mix_189 : decode cX_mix 189 = .ok (.invokevirtual 75, 3) := by decide +kernel
theorem ddX_mix_192 : decode cX_mix 192 = .ok (.goto 22, 3) := by decide +kernel
theorem ddX_mix_195 : decode cX_mix 195 = .ok (.aload_n 0, 1) := by decide +kernel
theorem ddX_mix_196 : decode cX_mix 196 = .ok (.aload_n 0, 1) := by decide +kernel
theorem ddX_mix_197 : decode cX_mix 197 = .ok (.getfield 11, 3) := by decide +kernel
theorem ddX_mix_200 : decode cX_mix 200 = .ok (.iload_n 1, 1) := by decide +kernel
theorem ddX_mix_201 : decode cX_mix 201 = .ok (.aaload, 1) := by decide +kernel
theorem ddX_mix_202 : decode cX_mix 202 = .ok (.iload 4, 2) := by decide +kernel
theorem ddX_mix_204 : decode cX_mix 204 = .ok (.iload 5, 2) := by decide +kernel
theorem ddX_mix_206 : decode cX_mix 206 = .ok (.iconst 1, 1) := by decide +kernel
theorem ddX_mix_207 : decode cX_mix 207 = .ok (.isub, 1) := by decide +kernel
theorem ddX_mix_208 : decode cX_mix 208 = .ok (.invokestatic 79, 3) := by decide +kernel
theorem ddX_mix_211 : decode cX_mix 211 = .ok (.invokevirtual 63, 3) := by decide +kernel
theorem ddX_mix_214 : decode cX_mix 214 = .ok (.return_, 1) := by decide +kernel
set_option maxHeartbeats 2000000 in
theorem zBX_mix_214 {self : Nat → Int32 → Int32 → Int32 → Mem → Option (Mem)} {G : GXM} {X : CxM} (hG : GokM G) (C : CoM G X cX_mix "HomeFreed$Mixer") (N : mLM X = 7) {d : Nat} (hD : dpM X = d) (hd : 5 ≤ d) (hS : ∀ (v0 : Nat) (v1 : Int32) (v2 : Int32) (v3 : Int32) (M : Mem) (q : Mem), self v0 v1 v2 v3 M = some q → ExM G X.2.1 (d - 1) 0 0 yX_mix cX_mix 7 none [.ref v0, .int v1, .int v2, .int v3] M none q)  {q : Mem} (E : EnM G X none none q 0 0) {M : Mem} (h : BX_mix_214 self M = some q) : ZM G X 214 [] [] M 0 0 := by
  unfold BX_mix_214 at h
  obtain rfl := Option.some.inj h
  exact zz_vret C E ddX_mix_214
set_option maxHeartbeats 2000000 in
theorem zBX_mix_155 {self : Nat → Int32 → Int32 → Int32 → Mem → Option (Mem)} {G : GXM} {X : CxM} (hG : GokM G) (C : CoM G X cX_mix "HomeFreed$Mixer") (N : mLM X = 7) {d : Nat} (hD : dpM X = d) (hd : 5 ≤ d) (hS : ∀ (v0 : Nat) (v1 : Int32) (v2 : Int32) (v3 : Int32) (M : Mem) (q : Mem), self v0 v1 v2 v3 M = some q → ExM G X.2.1 (d - 1) 0 0 yX_mix cX_mix 7 none [.ref v0, .int v1, .int v2, .int v3] M none q)  {q : Mem} (E : EnM G X none none q 0 0) {v0 : Nat} {v1 : Int32} {v2 : Int32} {v3 : Int32} {v4 : Int32} {v5 : Int32} {M : Mem} (h : BX_mix_155 self v0 v1 v2 v3 v4 v5 M = some q) : ZM G X 155 [(0, .ref v0), (1, .int v1), (2, .int v2), (3, .int v3), (4, .int v4), (5, .int v5)] [] M 0 0 := by
  unfold BX_mix_155 at h
  refine zz_iload C 5 ddX_mix_155 rfl ?_
  refine zz_if_le (tgt := 214) C ddX_mix_157 rfl (fun hc => ?_) (fun hc => ?_)
  · replace h := iteT h hc
    refine zz_loc (L1 := []) [] rfl ?_
    exact zBX_mix_214 hG C N hD hd hS E h
  · replace h := iteF h hc
    refine zz_aload_n C 0 ddX_mix_160 rfl rfl ?_
    obtain ⟨h1, h⟩ := gdN h
    obtain ⟨h2, h⟩ := gdN h
    refine zz_getr C ddX_mix_161 fl_X_23 rfl h1 (of_decide_eq_true h2) ?_
    refine zz_iload_n C 1 ddX_mix_164 rfl rfl ?_
    obtain ⟨h3, h⟩ := gdN h
    obtain ⟨h4, h⟩ := gdN h
    refine zz_aaload (t := 105) C ddX_mix_165 (by decide) (fun _ => rfl) h3 (of_decide_eq_true h4) ?_
    refine zz_aload_n C 0 ddX_mix_166 rfl rfl ?_
    obtain ⟨h5, h⟩ := gdN h
    refine zz_getr C ddX_mix_167 fl_X_11 rfl h1 (of_decide_eq_true h5) ?_
    refine zz_iload_n C 1 ddX_mix_170 rfl rfl ?_
    obtain ⟨h6, h⟩ := gdN h
    obtain ⟨h7, h⟩ := gdN h
    refine zz_aaload (t := 103) C ddX_mix_171 (by decide) (fun _ => rfl) h6 (of_decide_eq_true h7) ?_
    refine zz_aload_n C 0 ddX_mix_172 rfl rfl ?_
    obtain ⟨h8, h⟩ := gdN h
    refine zz_getr C ddX_mix_173 fl_X_37 rfl h1 (of_decide_eq_true h8) ?_
    refine zz_iload_n C 3 ddX_mix_176 rfl rfl ?_
    obtain ⟨h10, h⟩ := gdN h
    obtain ⟨q9, hq9, h⟩ := bindN h
    refine zz_callV0 (As := [.ref (grM M (grM M v0 0) (Int32.toNatClampNeg v1)), .ref (grM M v0 4), .int v3]) C ddX_mix_177 wd_1016 my_G_doStep mv_G_doStep ⟨_, rfl, rfl⟩ (xG_doStep hG (d - 1) (by omega) hq9) (by omega) h10 rfl rfl (Nat.le_of_ble_eq_true rfl) ?_
    refine zz_if_eq (tgt := 195) C ddX_mix_180 rfl (fun hc => ?_) (fun hc => ?_)
    · replace h := iteT h hc
      refine zz_aload_n C 0 ddX_mix_195 rfl rfl ?_
      refine zz_aload_n C 0 ddX_mix_196 rfl rfl ?_
      obtain ⟨h11, h⟩ := gdN h
      obtain ⟨h12, h⟩ := gdN h
      refine zz_getr C ddX_mix_197 fl_X_11 rfl h11 (of_decide_eq_true h12) ?_
      refine zz_iload_n C 1 ddX_mix_200 rfl rfl ?_
      obtain ⟨h13, h⟩ := gdN h
      obtain ⟨h14, h⟩ := gdN h
      refine zz_aaload (t := 103) C ddX_mix_201 (by decide) (fun _ => rfl) h13 (of_decide_eq_true h14) ?_
      refine zz_iload C 4 ddX_mix_202 rfl ?_
      refine zz_iload C 5 ddX_mix_204 rfl ?_
      refine zz_iconst (v := 1) C ddX_mix_206 (by decide) ?_
      refine zz_isub C ddX_mix_207 ?_
      obtain ⟨q15, hq15, h⟩ := bindN h
      refine zz_callS0 (As := [.int v4, .int (v5 - 1)]) C ddX_mix_208 wd_1018 my_X_waysOf mv_X_waysOf (xX_waysOf hG (d - 1) (by omega) hq15) (by omega) rfl rfl (Nat.le_of_ble_eq_true rfl) ?_
      obtain ⟨h17, h⟩ := gdN h
      obtain ⟨q16, hq16, h⟩ := bindN h
      refine zz_callV0 (As := [.ref (grM q9.2 (grM q9.2 v0 0) (Int32.toNatClampNeg v1)), .int q15.1]) C ddX_mix_211 wd_1000 my_X_tally mv_X_tally ⟨_, rfl, rfl⟩ (xX_tally hG (d - 1) (by omega) hq16) (by omega) h17 rfl rfl (Nat.le_of_ble_eq_true rfl) ?_
      refine zz_loc (L1 := []) [] rfl ?_
      exact zBX_mix_214 hG C N hD hd hS E h
    · replace h := iteF h hc
      refine zz_aload_n C 0 ddX_mix_183 rfl rfl ?_
      refine zz_iload_n C 1 ddX_mix_184 rfl rfl ?_
      refine zz_iload_n C 2 ddX_mix_185 rfl rfl ?_
      refine zz_iload_n C 3 ddX_mix_186 rfl rfl ?_
      refine zz_iconst (v := 1) C ddX_mix_187 (by decide) ?_
      refine zz_iadd C ddX_mix_188 ?_
      obtain ⟨h19, h⟩ := gdN h
      obtain ⟨q18, hq18, h⟩ := bindN h
      refine zz_callV0 (As := [.int v1, .int v2, .int (v3 + 1)]) C ddX_mix_189 wd_1017 my_X_mix mv_X_mix ⟨_, rfl, rfl⟩ (hS _ _ _ _ _ _ hq18) (by omega) h19 rfl rfl (Nat.le_of_ble_eq_true rfl) ?_
      refine zz_goto (tgt := 214) C ddX_mix_192 rfl ?_
      refine zz_loc (L1 := []) [] rfl ?_
      exact zBX_mix_214 hG C N hD hd hS E h
set_option maxHeartbeats 2000000 in
theorem zBX_mix_95 {self : Nat → Int32 → Int32 → Int32 → Mem → Option (Mem)} {G : GXM} {X : CxM} (hG : GokM G) (C : CoM G X cX_mix "HomeFreed$Mixer") (N : mLM X = 7) {d : Nat} (hD : dpM X = d) (hd : 5 ≤ d) (hS : ∀ (v0 : Nat) (v1 : Int32) (v2 : Int32) (v3 : Int32) (M : Mem) (q : Mem), self v0 v1 v2 v3 M = some q → ExM G X.2.1 (d - 1) 0 0 yX_mix cX_mix 7 none [.ref v0, .int v1, .int v2, .int v3] M none q)  {q : Mem} (E : EnM G X none none q 0 0) {v0 : Nat} {v1 : Int32} {v2 : Int32} {v3 : Int32} {v4 : Int32} {v5 : Int32} {w0 : Int32} {M : Mem} (h : BX_mix_95 self v0 v1 v2 v3 v4 v5 w0 M = some q) : ZM G X 95 [(0, .ref v0), (1, .int v1), (2, .int v2), (3, .int v3), (4, .int v4), (5, .int v5)] [.int w0] M 0 0 := by
  unfold BX_mix_95 at h
  refine zz_istore (L1 := [(6, .int w0), (0, .ref v0), (1, .int v1), (2, .int v2), (3, .int v3), (4, .int v4), (5, .int v5)]) C ddX_mix_95 N (by decide) rfl ?_
  refine zz_aload_n C 1 ddX_mix_97 rfl rfl ?_
  obtain ⟨h1, h⟩ := gdN h
  obtain ⟨h2, h⟩ := gdN h
  refine zz_getr C ddX_mix_98 fl_X_19 rfl h1 (of_decide_eq_true h2) ?_
  refine zz_iload C 0 ddX_mix_101 rfl ?_
  obtain ⟨h3, h⟩ := gdN h
  obtain ⟨h4, h⟩ := gdN h
  refine zz_aaload (t := 105) C ddX_mix_103 (by decide) (fun _ => rfl) h3 (of_decide_eq_true h4) ?_
  refine zz_aload_n C 1 ddX_mix_104 rfl rfl ?_
  obtain ⟨h5, h⟩ := gdN h
  refine zz_getr C ddX_mix_105 fl_X_11 rfl h1 (of_decide_eq_true h5) ?_
  refine zz_iload C 0 ddX_mix_108 rfl ?_
  obtain ⟨h6, h⟩ := gdN h
  obtain ⟨h7, h⟩ := gdN h
  refine zz_aaload (t := 103) C ddX_mix_110 (by decide) (fun _ => rfl) h6 (of_decide_eq_true h7) ?_
  refine zz_aload_n C 1 ddX_mix_111 rfl rfl ?_
  obtain ⟨h8, h⟩ := gdN h
  refine zz_getr C ddX_mix_112 fl_X_33 rfl h1 (of_decide_eq_true h8) ?_
  refine zz_iload_n C 3 ddX_mix_115 rfl rfl ?_
  obtain ⟨h10, h⟩ := gdN h
  obtain ⟨q9, hq9, h⟩ := bindN h
  refine zz_callV0 (As := [.ref (grM M (grM M v0 0) (Int32.toNatClampNeg w0)), .ref (grM M v0 3), .int v2]) C ddX_mix_116 wd_1016 my_G_doStep mv_G_doStep ⟨_, rfl, rfl⟩ (xG_doStep hG (d - 1) (by omega) hq9) (by omega) h10 rfl rfl (Nat.le_of_ble_eq_true rfl) ?_
  refine zz_if_eq (tgt := 135) C ddX_mix_119 rfl (fun hc => ?_) (fun hc => ?_)
  · replace h := iteT h hc
    refine zz_aload_n C 1 ddX_mix_135 rfl rfl ?_
    refine zz_aload_n C 1 ddX_mix_136 rfl rfl ?_
    obtain ⟨h11, h⟩ := gdN h
    obtain ⟨h12, h⟩ := gdN h
    refine zz_getr C ddX_mix_137 fl_X_11 rfl h11 (of_decide_eq_true h12) ?_
    refine zz_iload C 0 ddX_mix_140 rfl ?_
    obtain ⟨h13, h⟩ := gdN h
    obtain ⟨h14, h⟩ := gdN h
    refine zz_aaload (t := 103) C ddX_mix_142 (by decide) (fun _ => rfl) h13 (of_decide_eq_true h14) ?_
    refine zz_iload C 5 ddX_mix_143 rfl ?_
    refine zz_iconst (v := 1) C ddX_mix_145 (by decide) ?_
    refine zz_isub C ddX_mix_146 ?_
    refine zz_iload C 6 ddX_mix_147 rfl ?_
    obtain ⟨q15, hq15, h⟩ := bindN h
    refine zz_callS0 (As := [.int (v4 - 1), .int v5]) C ddX_mix_149 wd_1018 my_X_waysOf mv_X_waysOf (xX_waysOf hG (d - 1) (by omega) hq15) (by omega) rfl rfl (Nat.le_of_ble_eq_true rfl) ?_
    obtain ⟨h17, h⟩ := gdN h
    obtain ⟨q16, hq16, h⟩ := bindN h
    refine zz_callV0 (As := [.ref (grM q9.2 (grM q9.2 v0 0) (Int32.toNatClampNeg w0)), .int q15.1]) C ddX_mix_152 wd_1000 my_X_tally mv_X_tally ⟨_, rfl, rfl⟩ (xX_tally hG (d - 1) (by omega) hq16) (by omega) h17 rfl rfl (Nat.le_of_ble_eq_true rfl) ?_
    refine zz_loc (L1 := [(0, .ref v0), (1, .int v1), (2, .int v2), (3, .int v3), (4, .int v4), (5, .int v5)]) [1, 2, 3, 4, 5, 6] rfl ?_
    exact zBX_mix_155 hG C N hD hd hS E h
  · replace h := iteF h hc
    refine zz_aload_n C 1 ddX_mix_122 rfl rfl ?_
    refine zz_iload C 0 ddX_mix_123 rfl ?_
    refine zz_iload_n C 3 ddX_mix_125 rfl rfl ?_
    refine zz_iconst (v := 1) C ddX_mix_126 (by decide) ?_
    refine zz_iadd C ddX_mix_127 ?_
    refine zz_iload_n C 4 ddX_mix_128 rfl rfl ?_
    obtain ⟨h19, h⟩ := gdN h
    obtain ⟨q18, hq18, h⟩ := bindN h
    refine zz_callV0 (As := [.int w0, .int (v2 + 1), .int v3]) C ddX_mix_129 wd_1017 my_X_mix mv_X_mix ⟨_, rfl, rfl⟩ (hS _ _ _ _ _ _ hq18) (by omega) h19 rfl rfl (Nat.le_of_ble_eq_true rfl) ?_
    refine zz_goto (tgt := 155) C ddX_mix_132 rfl ?_
    refine zz_loc (L1 := [(0, .ref v0), (1, .int v1), (2, .int v2), (3, .int v3), (4, .int v4), (5, .int v5)]) [1, 2, 3, 4, 5, 6] rfl ?_
    exact zBX_mix_155 hG C N hD hd hS E h
set_option maxHeartbeats 2000000 in
theorem zBX_mix_76 {self : Nat → Int32 → Int32 → Int32 → Mem → Option (Mem)} {G : GXM} {X : CxM} (hG : GokM G) (C : CoM G X cX_mix "HomeFreed$Mixer") (N : mLM X = 7) {d : Nat} (hD : dpM X = d) (hd : 5 ≤ d) (hS : ∀ (v0 : Nat) (v1 : Int32) (v2 : Int32) (v3 : Int32) (M : Mem) (q : Mem), self v0 v1 v2 v3 M = some q → ExM G X.2.1 (d - 1) 0 0 yX_mix cX_mix 7 none [.ref v0, .int v1, .int v2, .int v3] M none q)  {q : Mem} (E : EnM G X none none q 0 0) {v0 : Nat} {v1 : Int32} {v2 : Int32} {v3 : Int32} {v4 : Int32} {v5 : Int32} {M : Mem} (h : BX_mix_76 self v0 v1 v2 v3 v4 v5 M = some q) : ZM G X 76 [(0, .ref v0), (1, .int v1), (2, .int v2), (3, .int v3), (4, .int v4), (5, .int v5)] [] M 0 0 := by
  unfold BX_mix_76 at h
  refine zz_iload C 4 ddX_mix_76 rfl ?_
  refine zz_if_le (tgt := 155) C ddX_mix_78 rfl (fun hc => ?_) (fun hc => ?_)
  · replace h := iteT h hc
    exact zBX_mix_155 hG C N hD hd hS E h
  · replace h := iteF h hc
    refine zz_iload C 5 ddX_mix_81 rfl ?_
    refine zz_if_le (tgt := 94) C ddX_mix_83 rfl (fun hc => ?_) (fun hc => ?_)
    · replace h := iteT h hc
      refine zz_iload_n C 1 ddX_mix_94 rfl rfl ?_
      exact zBX_mix_95 hG C N hD hd hS E h
    · replace h := iteF h hc
      refine zz_aload_n C 0 ddX_mix_86 rfl rfl ?_
      refine zz_iload_n C 1 ddX_mix_87 rfl rfl ?_
      obtain ⟨h2, h⟩ := gdN h
      obtain ⟨q1, hq1, h⟩ := bindN h
      refine zz_callV0 (As := [.int v1]) C ddX_mix_88 wd_1007 my_X_deepen mv_X_deepen ⟨_, rfl, rfl⟩ (xX_deepen hG (d - 1) (by omega) hq1) (by omega) h2 rfl rfl (Nat.le_of_ble_eq_true rfl) ?_
      refine zz_goto (tgt := 95) C ddX_mix_91 rfl ?_
      exact zBX_mix_95 hG C N hD hd hS E h
set_option maxHeartbeats 2000000 in
theorem zBX_mix_21 {self : Nat → Int32 → Int32 → Int32 → Mem → Option (Mem)} {G : GXM} {X : CxM} (hG : GokM G) (C : CoM G X cX_mix "HomeFreed$Mixer") (N : mLM X = 7) {d : Nat} (hD : dpM X = d) (hd : 5 ≤ d) (hS : ∀ (v0 : Nat) (v1 : Int32) (v2 : Int32) (v3 : Int32) (M : Mem) (q : Mem), self v0 v1 v2 v3 M = some q → ExM G X.2.1 (d - 1) 0 0 yX_mix cX_mix 7 none [.ref v0, .int v1, .int v2, .int v3] M none q)  {q : Mem} (E : EnM G X none none q 0 0) {M : Mem} (h : BX_mix_21 self M = some q) : ZM G X 21 [] [] M 0 0 := by
  unfold BX_mix_21 at h
  obtain rfl := Option.some.inj h
  exact zz_vret C E ddX_mix_21
set_option maxHeartbeats 2000000 in
theorem xX_mix {G : GXM} {l : Launch} (hG : GokM G) : ∀ (f d : Nat) (hd : 5 + f ≤ d) (v0 : Nat) (v1 : Int32) (v2 : Int32) (v3 : Int32) (M : Mem) (q : Mem) (h : fX_mix f v0 v1 v2 v3 M = some q), ExM G l d 0 0 yX_mix cX_mix 7 none [.ref v0, .int v1, .int v2, .int v3] M none q := by
  intro f
  induction f with
  | zero => intro d hd v0 v1 v2 v3 M q h; cases h
  | succ f ih =>
  intro d hd0 v0 v1 v2 v3 M q h
  refine ex_of hG (by decide +kernel) (Nat.le_of_ble_eq_true rfl) ?_
  intro X hl C E N hD hn
  have hS := fun v0 v1 v2 v3 M q h => hl ▸ ih (d - 1) (by omega) v0 v1 v2 v3 M q h
  have hd : 5 ≤ d := by omega
  show ZM G X 0 [(0, .ref v0), (1, .int v1), (2, .int v2), (3, .int v3)] [] M 0 0
  have h : gX_mix (fX_mix f) v0 v1 v2 v3 M = some q := h
  unfold gX_mix at h
  refine zz_iload_n C 1 ddX_mix_0 rfl rfl ?_
  refine zz_aload_n C 0 ddX_mix_1 rfl rfl ?_
  obtain ⟨h1, h⟩ := gdN h
  obtain ⟨h2, h⟩ := gdN h
  refine zz_getr C ddX_mix_2 fl_X_11 rfl h1 (of_decide_eq_true h2) ?_
  obtain ⟨h3, h⟩ := gdN h
  refine zz_alenR (t := 103) C ddX_mix_5 (by decide) (fun _ => rfl) h3 ?_
  refine zz_icmp_ge (tgt := 21) C ddX_mix_6 rfl (fun hc => ?_) (fun hc => ?_)
  · replace h := iteT h hc
    refine zz_loc (L1 := []) [] rfl ?_
    exact zBX_mix_21 hG C N hD hd hS E h
  · replace h := iteF h hc
    refine zz_iload_n C 2 ddX_mix_9 rfl rfl ?_
    refine zz_bipush (v := 6) C ddX_mix_10 (by decide) ?_
    refine zz_icmp_gt (tgt := 21) C ddX_mix_12 rfl (fun hc => ?_) (fun hc => ?_)
    · replace h := iteT h hc
      refine zz_loc (L1 := []) [] rfl ?_
      exact zBX_mix_21 hG C N hD hd hS E h
    · replace h := iteF h hc
      refine zz_iload_n C 3 ddX_mix_15 rfl rfl ?_
      refine zz_bipush (v := 6) C ddX_mix_16 (by decide) ?_
      refine zz_icmp_le (tgt := 22) C ddX_mix_18 rfl (fun hc => ?_) (fun hc => ?_)
      · replace h := iteT h hc
        refine zz_aload_n C 0 ddX_mix_22 rfl rfl ?_
        obtain ⟨h4, h⟩ := gdN h
        refine zz_getr C ddX_mix_23 fl_X_33 rfl h1 (of_decide_eq_true h4) ?_
        obtain ⟨h5, h⟩ := gdN h
        refine zz_geti C ddX_mix_26 fl_X_60 rfl h5 ?_
        refine zz_iload_n C 2 ddX_mix_29 rfl rfl ?_
        refine zz_isub C ddX_mix_30 ?_
        refine zz_istore (L1 := [(4, .int ((giM M (grM M v0 3) 3) - v2)), (0, .ref v0), (1, .int v1), (2, .int v2), (3, .int v3)]) C ddX_mix_31 N (by decide) rfl ?_
        refine zz_aload_n C 1 ddX_mix_33 rfl rfl ?_
        obtain ⟨h6, h⟩ := gdN h
        refine zz_getr C ddX_mix_34 fl_X_37 rfl h1 (of_decide_eq_true h6) ?_
        obtain ⟨h7, h⟩ := gdN h
        refine zz_geti C ddX_mix_37 fl_X_60 rfl h7 ?_
        refine zz_iload_n C 4 ddX_mix_40 rfl rfl ?_
        refine zz_isub C ddX_mix_41 ?_
        refine zz_istore (L1 := [(5, .int ((giM M (grM M v0 4) 3) - v3)), (4, .int ((giM M (grM M v0 3) 3) - v2)), (0, .ref v0), (1, .int v1), (2, .int v2), (3, .int v3)]) C ddX_mix_42 N (by decide) rfl ?_
        refine zz_iload C 1 ddX_mix_44 rfl ?_
        refine zz_if_gt (tgt := 76) C ddX_mix_46 rfl (fun hc => ?_) (fun hc => ?_)
        · replace h := iteT h hc
          refine zz_loc (L1 := [(0, .ref v0), (1, .int v1), (2, .int v2), (3, .int v3), (4, .int ((giM M (grM M v0 3) 3) - v2)), (5, .int ((giM M (grM M v0 4) 3) - v3))]) [2, 3, 4, 5, 1, 0] rfl ?_
          exact zBX_mix_76 hG C N hD hd hS E h
        · replace h := iteF h hc
          refine zz_iload C 0 ddX_mix_49 rfl ?_
          refine zz_if_gt (tgt := 76) C ddX_mix_51 rfl (fun hc => ?_) (fun hc => ?_)
          · replace h := iteT h hc
            refine zz_loc (L1 := [(0, .ref v0), (1, .int v1), (2, .int v2), (3, .int v3), (4, .int ((giM M (grM M v0 3) 3) - v2)), (5, .int ((giM M (grM M v0 4) 3) - v3))]) [2, 3, 4, 5, 1, 0] rfl ?_
            exact zBX_mix_76 hG C N hD hd hS E h
          · replace h := iteF h hc
            refine zz_aload_n C 2 ddX_mix_54 rfl rfl ?_
            refine zz_dup C ddX_mix_55 rfl ?_
            refine zz_geti C ddX_mix_56 fl_X_51 rfl h1 ?_
            refine zz_iconst (v := 1) C ddX_mix_59 (by decide) ?_
            refine zz_iadd C ddX_mix_60 ?_
            refine zz_puti C ddX_mix_61 fl_X_51 rfl rfl rfl h1 ?_
            refine zz_aload_n C 2 ddX_mix_64 rfl rfl ?_
            refine zz_aload_n C 2 ddX_mix_65 rfl rfl ?_
            refine zz_getr C ddX_mix_66 fl_X_11 rfl h1 (of_decide_eq_true h2) ?_
            refine zz_iload_n C 3 ddX_mix_69 rfl rfl ?_
            obtain ⟨h8, h⟩ := gdN h
            obtain ⟨h9, h⟩ := gdN h
            refine zz_aaload (t := 103) C ddX_mix_70 (by decide) (fun _ => rfl) h8 (of_decide_eq_true h9) ?_
            refine zz_iconst (v := 1) C ddX_mix_71 (by decide) ?_
            obtain ⟨q10, hq10, h⟩ := bindN h
            refine zz_callV0 (As := [.ref (grM M (grM M v0 0) (Int32.toNatClampNeg v1)), .int 1]) C ddX_mix_72 wd_1000 my_X_tally mv_X_tally ⟨_, rfl, rfl⟩ (xX_tally hG (d - 1) (by omega) hq10) (by omega) h1 rfl rfl (Nat.le_of_ble_eq_true rfl) ?_
            obtain rfl := Option.some.inj h
            exact zz_vret C E ddX_mix_75
      · replace h := iteF h hc
        refine zz_loc (L1 := []) [] rfl ?_
        exact zBX_mix_21 hG C N hD hd hS E h
theorem ddA_ways_0 : decode cA_ways 0 = .ok (.aload_n 0, 1) := by decide +kernel
theorem ddA_ways_1 : decode cA_ways 1 = .ok (.getfield 28, 3) := by decide +kernel
theorem ddA_ways_4 : decode cA_ways 4 = .ok (.invokevirtual 132, 3) := by decide +kernel
theorem ddA_ways_7 : decode cA_ways 7 = .ok (.ifCond .eq 33, 3) := by decide +kernel
theorem ddA_ways_10 : decode cA_ways 10 = .ok (.aload_n 0, 1) := by decide +kernel
theorem ddA_ways_11 : decode cA_ways 11 = .ok (.iload_n 1, 1) := by decide +kernel
theorem ddA_ways_12 : decode cA_ways 12 = .ok (.invokevirtual 248, 3) := by decide +kernel
theorem ddA_ways_15 : decode cA_ways 15 = .ok (.ifCond .eq 25, 3) := by decide +kernel
theorem ddA_ways_18 : decode cA_ways 18 = .ok (.aload_n 0, 1) := by decide +kernel
theorem ddA_ways_19 : decode cA_ways 19 = .ok (.iload_n 2, 1) := by decide +kernel
theorem ddA_ways_20 : decode cA_ways 20 = .ok (.invokevirtual 248, 3) := by decide +kernel
theorem ddA_ways_23 : decode cA_ways 23 = .ok (.ifCond .eq 17, 3) := by decide +kernel
theorem ddA_ways_26 : decode cA_ways 26 = .ok (.iload_n 1, 1) := by decide +kernel
theorem ddA_ways_27 : decode cA_ways 27 = .ok (.iload_n 2, 1) := by decide +kernel
theorem ddA_ways_28 : decode cA_ways 28 = .ok (.if_icmp .eq 12, 3) := by decide +kernel
theorem ddA_ways_31 : decode cA_ways 31 = .ok (.iload_n 3, 1) := by decide +kernel
theorem ddA_ways_32 : decode cA_ways 32 = .ok (.ifCond .lt 8, 3) := by decide +kernel
theorem ddA_ways_35 : decode cA_ways 35 = .ok (.iload_n 3, 1) := by decide +kernel
theorem ddA_ways_36 : decode cA_ways 36 = .ok (.iconst 3, 1) := by decide +kernel
theorem ddA_ways_37 : decode cA_ways 37 = .ok (.if_icmp .le 5, 3) := by decide +kernel
theorem ddA_ways_40 : decode cA_ways 40 = .ok (.iconst (-1), 1) := by decide +kernel
theorem ddA_ways_41 : decode cA_ways 41 = .ok (.ireturn, 1) := by decide +kernel
theorem ddA_ways_42 : decode cA_ways 42 = .ok (.aload_n 0, 1) := by decide +kernel
theorem ddA_ways_43 : decode cA_ways 43 = .ok (.getfield 37, 3) := by decide +kernel
theorem ddA_ways_46 : decode cA_ways 46 = .ok (.iload_n 1, 1) := by decide +kernel
theorem ddA_ways_47 : decode cA_ways 47 = .ok (.aaload, 1) := by decide +kernel
theorem ddA_ways_48 : decode cA_ways 48 = .ok (.invokevirtual 346, 3) := by decide +kernel
theorem ddA_ways_51 : decode cA_ways 51 = .ok (.ifCond .eq 15, 3) := by decide +kernel
theorem ddA_ways_54 : decode cA_ways 54 = .ok (.aload_n 0, 1) := by decide +kernel
theorem ddA_ways_55 : decode cA_ways 55 = .ok (.getfield 37, 3) := by decide +kernel
theorem ddA_ways_58 : decode cA_ways 58 = .ok (.iload_n 2, 1) := by decide +kernel
theorem ddA_ways_59 : decode cA_ways 59 = .ok (.aaload, 1) := by decide +kernel
theorem ddA_ways_60 : decode cA_ways 60 = .ok (.invokevirtual 346, 3) := by decide +kernel
theorem ddA_ways_63 : decode cA_ways 63 = .ok (.ifCond .ne 5, 3) := by decide +kernel
theorem ddA_ways_66 : decode cA_ways 66 = .ok (.iconst (-1), 1) := by decide +kernel
theorem ddA_ways_67 : decode cA_ways 67 = .ok (.ireturn, 1) := by decide +kernel
theorem ddA_ways_68 : decode cA_ways 68 = .ok (.aload_n 0, 1) := by decide +kernel
theorem ddA_ways_69 : decode cA_ways 69 = .ok (.getfield 80, 3) := by decide +kernel
theorem ddA_ways_72 : decode cA_ways 72 = .ok (.aload_n 0, 1) := by decide +kernel
theorem ddA_ways_73 : decode cA_ways 73 = .ok (.getfield 55, 3) := by decide +kernel
theorem ddA_ways_76 : decode cA_ways 76 = .ok (.aload_n 0, 1) := by decide +kernel
theorem ddA_ways_77 : decode cA_ways 77 = .ok (.getfield 37, 3) := by decide +kernel
theorem ddA_ways_80 : decode cA_ways 80 = .ok (.iload_n 1, 1) := by decide +kernel
theorem ddA_ways_81 : decode cA_ways 81 = .ok (.aaload, 1) := by decide +kernel
theorem ddA_ways_82 : decode cA_ways 82 = .ok (.aload_n 0, 1) := by decide +kernel
theorem ddA_ways_83 : decode cA_ways 83 = .ok (.getfield 37, 3) := by decide +kernel
theorem ddA_ways_86 : decode cA_ways 86 = .ok (.iload_n 2, 1) := by decide +kernel
theorem ddA_ways_87 : decode cA_ways 87 = .ok (.aaload, 1) := by decide +kernel
theorem ddA_ways_88 : decode cA_ways 88 = .ok (.invokevirtual 349, 3) := by decide +kernel
theorem ddA_ways_91 : decode cA_ways 91 = .ok (.aload_n 0, 1) := by decide +kernel
theorem ddA_ways_92 : decode cA_ways 92 = .ok (.getfield 80, 3) := by decide +kernel
theorem ddA_ways_95 : decode cA_ways 95 = .ok (.iconst 0, 1) := by decide +kernel
theorem ddA_ways_96 : decode cA_ways 96 = .ok (.iconst 0, 1) := by decide +kernel
theorem ddA_ways_97 : decode cA_ways 97 = .ok (.iconst 0, 1) := by decide +kernel
theorem ddA_ways_98 : decode cA_ways 98 = .ok (.invokevirtual 353, 3) := by decide +kernel
theorem ddA_ways_101 : decode cA_ways 101 = .ok (.iload_n 3, 1) := by decide +kernel
theorem ddA_ways_102 : decode cA_ways 102 = .ok (.tableswitch 50 0 2 #[26, 34, 42], 26) := by decide +kernel
theorem ddA_ways_128 : decode cA_ways 128 = .ok (.aload_n 0, 1) := by decide +kernel
theorem ddA_ways_129 : decode cA_ways 129 = .ok (.getfield 80, 3) := by decide +kernel
theorem ddA_ways_132 : decode cA_ways 132 = .ok (.getfield 357, 3) := by decide +kernel
theorem ddA_ways_135 : decode cA_ways 135 = .ok (.ireturn, 1) := by decide +kernel
theorem ddA_ways_136 : decode cA_ways 136 = .ok (.aload_n 0, 1) := by decide +kernel
theorem ddA_ways_137 : decode cA_ways 137 = .ok (.getfield 80, 3) := by decide +kernel
theorem ddA_ways_140 : decode cA_ways 140 = .ok (.getfield 360, 3) := by decide +kernel
theorem ddA_ways_143 : decode cA_ways 143 = .ok (.ireturn, 1) := by decide +kernel
theorem ddA_ways_144 : decode cA_ways 144 = .ok (.aload_n 0, 1) := by decide +kernel
theorem ddA_ways_145 : decode cA_ways 145 = .ok (.getfield 80, 3) := by decide +kernel
theorem ddA_ways_148 : decode cA_ways 148 = .ok (.getfield 363, 3) := by decide +kernel
theorem ddA_ways_151 : decode cA_ways 151 = .ok (.ireturn, 1) := by decide +kernel
theorem ddA_ways_152 : decode cA_ways 152 = .ok (.aload_n 0, 1) := by decide +kernel
theorem ddA_ways_153 : decode cA_ways 153 = .ok (.getfield 80, 3) := by decide +kernel
theorem ddA_ways_156 : decode cA_ways 156 = .ok (.getfield 366, 3) := by decide +kernel
theorem ddA_ways_159 : decode cA_ways 159 = .ok (.ireturn, 1) := by decide +kernel
set_option maxHeartbeats 2000000 in
theorem zBA_ways_66 {G : GXM} {X : CxM} (hG : GokM G) (C : CoM G X cA_ways "HomeFreed") (N : mLM X = 4) {d : Nat} (hD : dpM X = d) (hd : 26 ≤ d)  {q : Int32 × Mem} (E : EnM G X (some .int) (some (.int q.1)) q.2 0 0) {M : Mem} (h : BA_ways_66 M = some q) : ZM G X 66 [] [] M 0 0 := by
  unfold BA_ways_66 at h
  refine zz_iconst (v := (-1)) C ddA_ways_66 (by decide) ?_
  obtain rfl := Option.some.inj h
  exact zz_iret C E ddA_ways_67
set_option maxHeartbeats 2000000 in
theorem zBA_ways_40 {G : GXM} {X : CxM} (hG : GokM G) (C : CoM G X cA_ways "HomeFreed") (N : mLM X = 4) {d : Nat} (hD : dpM X = d) (hd : 26 ≤ d)  {q : Int32 × Mem} (E : EnM G X (some .int) (some (.int q.1)) q.2 0 0) {M : Mem} (h : BA_ways_40 M = some q) : ZM G X 40 [] [] M 0 0 := by
  unfold BA_ways_40 at h
  refine zz_iconst (v := (-1)) C ddA_ways_40 (by decide) ?_
  obtain rfl := Option.some.inj h
  exact zz_iret C E ddA_ways_41
set_option maxHeartbeats 2000000 in
theorem xA_ways {G : GXM} {l : Launch} (hG : GokM G) (d : Nat) (hd : 26 ≤ d) {v0 : Nat} {v1 : Int32} {v2 : Int32} {v3 : Int32} {M : Mem} {q : Int32 × Mem} (h : fA_ways v0 v1 v2 v3 M = some q) : ExM G l d 0 0 yA_ways cA_ways 4 (some .int) [.ref v0, .int v1, .int v2, .int v3] M (some (.int q.1)) q.2 := by
  refine ex_of hG (by decide +kernel) (Nat.le_of_ble_eq_true rfl) ?_
  intro X hl C E N hD hn
  show ZM G X 0 [(0, .ref v0), (1, .int v1), (2, .int v2), (3, .int v3)] [] M 0 0
  unfold fA_ways at h
  refine zz_aload_n C 0 ddA_ways_0 rfl rfl ?_
  obtain ⟨h1, h⟩ := gdN h
  obtain ⟨h2, h⟩ := gdN h
  refine zz_getr C ddA_ways_1 fl_A_28 rfl h1 (of_decide_eq_true h2) ?_
  obtain ⟨h4, h⟩ := gdN h
  obtain ⟨q3, hq3, h⟩ := bindN h
  refine zz_callV0 (As := []) C ddA_ways_4 wd_566 my_U_areTold mv_U_areTold ⟨_, rfl, rfl⟩ (xU_areTold hG (d - 1) (by omega) hq3) (by omega) h4 rfl rfl (Nat.le_of_ble_eq_true rfl) ?_
  refine zz_if_eq (tgt := 40) C ddA_ways_7 rfl (fun hc => ?_) (fun hc => ?_)
  · replace h := iteT h hc
    refine zz_loc (L1 := []) [] rfl ?_
    exact zBA_ways_40 hG C N hD hd E h
  · replace h := iteF h hc
    refine zz_aload_n C 0 ddA_ways_10 rfl rfl ?_
    refine zz_iload_n C 1 ddA_ways_11 rfl rfl ?_
    obtain ⟨h6, h⟩ := gdN h
    obtain ⟨q5, hq5, h⟩ := bindN h
    refine zz_callV0 (As := [.int v1]) C ddA_ways_12 wd_813 my_A_isScript mv_A_isScript ⟨_, rfl, rfl⟩ (xA_isScript hG (d - 1) (by omega) hq5) (by omega) h6 rfl rfl (Nat.le_of_ble_eq_true rfl) ?_
    refine zz_if_eq (tgt := 40) C ddA_ways_15 rfl (fun hc => ?_) (fun hc => ?_)
    · replace h := iteT h hc
      refine zz_loc (L1 := []) [] rfl ?_
      exact zBA_ways_40 hG C N hD hd E h
    · replace h := iteF h hc
      refine zz_aload_n C 0 ddA_ways_18 rfl rfl ?_
      refine zz_iload_n C 2 ddA_ways_19 rfl rfl ?_
      obtain ⟨h8, h⟩ := gdN h
      obtain ⟨q7, hq7, h⟩ := bindN h
      refine zz_callV0 (As := [.int v2]) C ddA_ways_20 wd_813 my_A_isScript mv_A_isScript ⟨_, rfl, rfl⟩ (xA_isScript hG (d - 1) (by omega) hq7) (by omega) h8 rfl rfl (Nat.le_of_ble_eq_true rfl) ?_
      refine zz_if_eq (tgt := 40) C ddA_ways_23 rfl (fun hc => ?_) (fun hc => ?_)
      · replace h := iteT h hc
        refine zz_loc (L1 := []) [] rfl ?_
        exact zBA_ways_40 hG C N hD hd E h
      · replace h := iteF h hc
        refine zz_iload_n C 1 ddA_ways_26 rfl rfl ?_
        refine zz_iload_n C 2 ddA_ways_27 rfl rfl ?_
        refine zz_icmp_eq (tgt := 40) C ddA_ways_28 rfl (fun hc => ?_) (fun hc => ?_)
        · replace h := iteT h hc
          refine zz_loc (L1 := []) [] rfl ?_
          exact zBA_ways_40 hG C N hD hd E h
        · replace h := iteF h hc
          refine zz_iload_n C 3 ddA_ways_31 rfl rfl ?_
          refine zz_if_lt (tgt := 40) C ddA_ways_32 rfl (fun hc => ?_) (fun hc => ?_)
          · replace h := iteT h hc
            refine zz_loc (L1 := []) [] rfl ?_
            exact zBA_ways_40 hG C N hD hd E h
          · replace h := iteF h hc
            refine zz_iload_n C 3 ddA_ways_35 rfl rfl ?_
            refine zz_iconst (v := 3) C ddA_ways_36 (by decide) ?_
            refine zz_icmp_le (tgt := 42) C ddA_ways_37 rfl (fun hc => ?_) (fun hc => ?_)
            · replace h := iteT h hc
              refine zz_aload_n C 0 ddA_ways_42 rfl rfl ?_
              obtain ⟨h9, h⟩ := gdN h
              obtain ⟨h10, h⟩ := gdN h
              refine zz_getr C ddA_ways_43 fl_A_37 rfl h9 (of_decide_eq_true h10) ?_
              refine zz_iload_n C 1 ddA_ways_46 rfl rfl ?_
              obtain ⟨h11, h⟩ := gdN h
              obtain ⟨h12, h⟩ := gdN h
              refine zz_aaload (t := 104) C ddA_ways_47 (by decide) (fun _ => rfl) h11 (of_decide_eq_true h12) ?_
              obtain ⟨h14, h⟩ := gdN h
              obtain ⟨q13, hq13, h⟩ := bindN h
              refine zz_callV0 (As := []) C ddA_ways_48 wd_986 my_S_isMixable mv_S_isMixable ⟨_, rfl, rfl⟩ (xS_isMixable hG (d - 1) (by omega) hq13) (by omega) h14 rfl rfl (Nat.le_of_ble_eq_true rfl) ?_
              refine zz_if_eq (tgt := 66) C ddA_ways_51 rfl (fun hc => ?_) (fun hc => ?_)
              · replace h := iteT h hc
                refine zz_loc (L1 := []) [] rfl ?_
                exact zBA_ways_66 hG C N hD hd E h
              · replace h := iteF h hc
                refine zz_aload_n C 0 ddA_ways_54 rfl rfl ?_
                obtain ⟨h15, h⟩ := gdN h
                obtain ⟨h16, h⟩ := gdN h
                refine zz_getr C ddA_ways_55 fl_A_37 rfl h15 (of_decide_eq_true h16) ?_
                refine zz_iload_n C 2 ddA_ways_58 rfl rfl ?_
                obtain ⟨h17, h⟩ := gdN h
                obtain ⟨h18, h⟩ := gdN h
                refine zz_aaload (t := 104) C ddA_ways_59 (by decide) (fun _ => rfl) h17 (of_decide_eq_true h18) ?_
                obtain ⟨h20, h⟩ := gdN h
                obtain ⟨q19, hq19, h⟩ := bindN h
                refine zz_callV0 (As := []) C ddA_ways_60 wd_986 my_S_isMixable mv_S_isMixable ⟨_, rfl, rfl⟩ (xS_isMixable hG (d - 1) (by omega) hq19) (by omega) h20 rfl rfl (Nat.le_of_ble_eq_true rfl) ?_
                refine zz_if_ne (tgt := 68) C ddA_ways_63 rfl (fun hc => ?_) (fun hc => ?_)
                · replace h := iteF h hc
                  refine zz_aload_n C 0 ddA_ways_68 rfl rfl ?_
                  obtain ⟨h21, h⟩ := gdN h
                  obtain ⟨h22, h⟩ := gdN h
                  refine zz_getr C ddA_ways_69 fl_A_80 rfl h21 (of_decide_eq_true h22) ?_
                  refine zz_aload_n C 0 ddA_ways_72 rfl rfl ?_
                  obtain ⟨h23, h⟩ := gdN h
                  refine zz_getr C ddA_ways_73 fl_A_55 rfl h21 (of_decide_eq_true h23) ?_
                  refine zz_aload_n C 0 ddA_ways_76 rfl rfl ?_
                  obtain ⟨h24, h⟩ := gdN h
                  refine zz_getr C ddA_ways_77 fl_A_37 rfl h21 (of_decide_eq_true h24) ?_
                  refine zz_iload_n C 1 ddA_ways_80 rfl rfl ?_
                  obtain ⟨h25, h⟩ := gdN h
                  obtain ⟨h26, h⟩ := gdN h
                  refine zz_aaload (t := 104) C ddA_ways_81 (by decide) (fun _ => rfl) h25 (of_decide_eq_true h26) ?_
                  refine zz_aload_n C 0 ddA_ways_82 rfl rfl ?_
                  refine zz_getr C ddA_ways_83 fl_A_37 rfl h21 (of_decide_eq_true h24) ?_
                  refine zz_iload_n C 2 ddA_ways_86 rfl rfl ?_
                  obtain ⟨h27, h⟩ := gdN h
                  obtain ⟨h28, h⟩ := gdN h
                  refine zz_aaload (t := 104) C ddA_ways_87 (by decide) (fun _ => rfl) h27 (of_decide_eq_true h28) ?_
                  obtain ⟨h30, h⟩ := gdN h
                  obtain ⟨q29, hq29, h⟩ := bindN h
                  refine zz_callV0 (As := [.ref (grM q19.2 v0 7), .ref (grM q19.2 (grM q19.2 v0 4) (Int32.toNatClampNeg v1)), .ref (grM q19.2 (grM q19.2 v0 4) (Int32.toNatClampNeg v2))]) C ddA_ways_88 wd_990 my_X_begin mv_X_begin ⟨_, rfl, rfl⟩ (xX_begin hG (d - 1) (by omega) hq29) (by omega) h30 rfl rfl (Nat.le_of_ble_eq_true rfl) ?_
                  refine zz_aload_n C 0 ddA_ways_91 rfl rfl ?_
                  obtain ⟨h31, h⟩ := gdN h
                  obtain ⟨h32, h⟩ := gdN h
                  refine zz_getr C ddA_ways_92 fl_A_80 rfl h31 (of_decide_eq_true h32) ?_
                  refine zz_iconst (v := 0) C ddA_ways_95 (by decide) ?_
                  refine zz_iconst (v := 0) C ddA_ways_96 (by decide) ?_
                  refine zz_iconst (v := 0) C ddA_ways_97 (by decide) ?_
                  obtain ⟨h34, h⟩ := gdN h
                  obtain ⟨q33, hq33, h⟩ := bindN h
                  refine zz_callVN0 (As := [.int 0, .int 0, .int 0]) C ddA_ways_98 wd_996 my_X_mix mv_X_mix ⟨_, rfl, rfl⟩ (xX_mix hG 20 (d - 1) (by omega) _ _ _ _ _ _ hq33) (by omega) h34 rfl rfl (Nat.le_of_ble_eq_true rfl) ?_
                  refine zz_iload_n C 3 ddA_ways_101 rfl rfl ?_
                  by_cases hs102_0 : v3 = 0
                  · replace h := iteT h hs102_0
                    rw [hs102_0]
                    refine zz_tableIn (tgt := 128) C ddA_ways_102 (by decide) (by decide) rfl rfl ?_
                    refine zz_aload_n C 0 ddA_ways_128 rfl rfl ?_
                    obtain ⟨h35, h⟩ := gdN h
                    obtain ⟨h36, h⟩ := gdN h
                    refine zz_getr C ddA_ways_129 fl_A_80 rfl h35 (of_decide_eq_true h36) ?_
                    obtain ⟨h37, h⟩ := gdN h
                    refine zz_geti C ddA_ways_132 fl_A_357 rfl h37 ?_
                    obtain rfl := Option.some.inj h
                    exact zz_iret C E ddA_ways_135
                  replace h := iteF h hs102_0
                  by_cases hs102_1 : v3 = 1
                  · replace h := iteT h hs102_1
                    rw [hs102_1]
                    refine zz_tableIn (tgt := 136) C ddA_ways_102 (by decide) (by decide) rfl rfl ?_
                    refine zz_aload_n C 0 ddA_ways_136 rfl rfl ?_
                    obtain ⟨h38, h⟩ := gdN h
                    obtain ⟨h39, h⟩ := gdN h
                    refine zz_getr C ddA_ways_137 fl_A_80 rfl h38 (of_decide_eq_true h39) ?_
                    obtain ⟨h40, h⟩ := gdN h
                    refine zz_geti C ddA_ways_140 fl_A_360 rfl h40 ?_
                    obtain rfl := Option.some.inj h
                    exact zz_iret C E ddA_ways_143
                  replace h := iteF h hs102_1
                  by_cases hs102_2 : v3 = 2
                  · replace h := iteT h hs102_2
                    rw [hs102_2]
                    refine zz_tableIn (tgt := 144) C ddA_ways_102 (by decide) (by decide) rfl rfl ?_
                    refine zz_aload_n C 0 ddA_ways_144 rfl rfl ?_
                    obtain ⟨h41, h⟩ := gdN h
                    obtain ⟨h42, h⟩ := gdN h
                    refine zz_getr C ddA_ways_145 fl_A_80 rfl h41 (of_decide_eq_true h42) ?_
                    obtain ⟨h43, h⟩ := gdN h
                    refine zz_geti C ddA_ways_148 fl_A_363 rfl h43 ?_
                    obtain rfl := Option.some.inj h
                    exact zz_iret C E ddA_ways_151
                  replace h := iteF h hs102_2
                  have ths102_0 := lv_neT (a := 0) hs102_0 (by decide)
                  have ths102_1 := lv_neT (a := 1) hs102_1 (by decide)
                  have ths102_2 := lv_neT (a := 2) hs102_2 (by decide)
                  refine zz_tableOut (tgt := 152) C ddA_ways_102 (by omega) rfl ?_
                  refine zz_aload_n C 0 ddA_ways_152 rfl rfl ?_
                  obtain ⟨h44, h⟩ := gdN h
                  obtain ⟨h45, h⟩ := gdN h
                  refine zz_getr C ddA_ways_153 fl_A_80 rfl h44 (of_decide_eq_true h45) ?_
                  obtain ⟨h46, h⟩ := gdN h
                  refine zz_geti C ddA_ways_156 fl_A_366 rfl h46 ?_
                  obtain rfl := Option.some.inj h
                  exact zz_iret C E ddA_ways_159
                · replace h := iteT h hc
                  refine zz_loc (L1 := []) [] rfl ?_
                  exact zBA_ways_66 hG C N hD hd E h
            · replace h := iteF h hc
              refine zz_loc (L1 := []) [] rfl ?_
              exact zBA_ways_40 hG C N hD hd E h
theorem ddA_shares_0 : decode cA_shares 0 = .ok (.aload_n 0, 1) := by decide +kernel
theorem ddA_shares_1 : decode cA_shares 1 = .ok (.getfield 55, 3) := by decide +kernel
theorem ddA_shares_4 : decode cA_shares 4 = .ok (.iload_n 1, 1) := by decide +kernel
theorem ddA_shares_5 : decode cA_shares 5 = .ok (.invokevirtual 187, 3) := by decide +kernel
theorem ddA_shares_8 : decode cA_shares 8 = .ok (.ifCond .eq 14, 3) := by decide +kernel
theorem ddA_shares_11 : decode cA_shares 11 = .ok (.iload_n 2, 1) := by decide +kernel
theorem ddA_shares_12 : decode cA_shares 12 = .ok (.ifCond .lt 10, 3) := by decide +kernel
theorem ddA_shares_15 : decode cA_shares 15 = .ok (.iload_n 2, 1) := by decide +kernel
theorem ddA_shares_16 : decode cA_shares 16 = .ok (.sipush 999, 3) := by decide +kernel
theorem ddA_shares_19 : decode cA_shares 19 = .ok (.if_icmp .le 5, 3) := by decide +kernel
theorem ddA_shares_22 : decode cA_shares 22 = .ok (.iconst (-1), 1) := by decide +kernel
theorem ddA_shares_23 : decode cA_shares 23 = .ok (.ireturn, 1) := by decide +kernel
theorem ddA_shares_24 : decode cA_shares 24 = .ok (.iconst 0, 1) := by decide +kernel
theorem ddA_shares_25 : decode cA_shares 25 = .ok (.istore_n 3, 1) := by decide +kernel
theorem ddA_shares_26 : decode cA_shares 26 = .ok (.iconst 0, 1) := by decide +kernel
theorem ddA_shares_27 : decode cA_shares 27 = .ok (.istore 4, 2) := by decide +kernel
theorem ddA_shares_29 : decode cA_shares 29 = .ok (.iconst 0, 1) := by decide +kernel
theorem ddA_shares_30 : decode cA_shares 30 = .ok (.istore 5, 2) := by decide +kernel
theorem ddA_shares_32 : decode cA_shares 32 = .ok (.iload 5, 2) := by decide +kernel
theorem ddA_shares_34 : decode cA_shares 34 = .ok (.aload_n 0, 1) := by decide +kernel
theorem ddA_shares_35 : decode cA_shares 35 = .ok (.getfield 28, 3) := by decide +kernel
theorem ddA_shares_38 : decode cA_shares 38 = .ok (.getfield 136, 3) := by decide +kernel
theorem ddA_shares_41 : decode cA_shares 41 = .ok (.iconst 1, 1) := by decide +kernel
theorem ddA_shares_42 : decode cA_shares 42 = .ok (.iaload, 1) := by decide +kernel
theorem ddA_shares_43 : decode cA_shares 43 = .ok (.if_icmp .ge 53, 3) := by decide +kernel
theorem ddA_shares_46 : decode cA_shares 46 = .ok (.iload 4, 2) := by decide +kernel
theorem ddA_shares_48 : decode cA_shares 48 = .ok (.aload_n 0, 1) := by decide +kernel
theorem ddA_shares_49 : decode cA_shares 49 = .ok (.getfield 55, 3) := by decide +kernel
theorem ddA_shares_52 : decode cA_shares 52 = .ok (.iload 5, 2) := by decide +kernel
theorem ddA_shares_54 : decode cA_shares 54 = .ok (.invokevirtual 165, 3) := by decide +kernel
theorem ddA_shares_57 : decode cA_shares 57 = .ok (.iadd, 1) := by decide +kernel
theorem ddA_shares_58 : decode cA_shares 58 = .ok (.istore 4, 2) := by decide +kernel
theorem ddA_shares_60 : decode cA_shares 60 = .ok (.iload_n 3, 1) := by decide +kernel
theorem ddA_shares_61 : decode cA_shares 61 = .ok (.aload_n 0, 1) := by decide +kernel
theorem ddA_shares_62 : decode cA_shares 62 = .ok (.getfield 55, 3) := by decide +kernel
theorem ddA_shares_65 : decode cA_shares 65 = .ok (.getfield 159, 3) := by decide +kernel
theorem ddA_shares_68 : decode cA_shares 68 = .ok (.iload 5, 2) := by decide +kernel
theorem ddA_shares_70 : decode cA_shares 70 = .ok (.iaload, 1) := by decide +kernel
theorem ddA_shares_71 : decode cA_shares 71 = .ok (.iload_n 1, 1) := by decide +kernel
theorem ddA_shares_72 : decode cA_shares 72 = .ok (.if_icmp .ne 15, 3) := by decide +kernel
theorem ddA_shares_75 : decode cA_shares 75 = .ok (.aload_n 0, 1) := by decide +kernel
theorem ddA_shares_76 : decode cA_shares 76 = .ok (.getfield 55, 3) := by decide +kernel
theorem ddA_shares_79 : decode cA_shares 79 = .ok (.iload 5, 2) := by decide +kernel
theorem ddA_shares_81 : decode cA_shares 81 = .ok (.invokevirtual 165, 3) := by decide +kernel
theorem ddA_shares_84 : decode cA_shares 84 = .ok (.goto 4, 3) := by decide +kernel
theorem ddA_shares_87 : decode cA_shares 87 = .ok (.iconst 0, 1) := by decide +kernel
theorem ddA_shares_88 : decode cA_shares 88 = .ok (.iadd, 1) := by decide +kernel
theorem ddA_shares_89 : decode cA_shares 89 = .ok (.istore_n 3, 1) := by decide +kernel
theorem ddA_shares_90 : decode cA_shares 90 = .ok (.iinc 5 1, 3) := by decide +kernel
theorem ddA_shares_93 : decode cA_shares 93 = .ok (.goto (-61), 3) := by decide +kernel
theorem ddA_shares_96 : decode cA_shares 96 = .ok (.iload 4, 2) := by decide +kernel
theorem ddA_shares_98 : decode cA_shares 98 = .ok (.ifCond .le 12, 3) := by decide +kernel
theorem ddA_shares_101 : decode cA_shares 101 = .ok (.iload_n 2, 1) := by decide +kernel
theorem ddA_shares_102 : decode cA_shares 102 = .ok (.iload_n 3, 1) := by decide +kernel
theorem ddA_shares_103 : decode cA_shares 103 = .ok (.imul, 1) := by decide +kernel
theorem ddA_shares_104 : decode cA_shares 104 = .ok (.iload 4, 2) := by decide +kernel
theorem ddA_shares_106 : decode cA_shares 106 = .ok (.idiv, 1) := by decide +kernel
theorem ddA_shares_107 : decode cA_shares 107 = .ok (.goto 4, 3) := by decide +kernel
theorem ddA_shares_110 : decode cA_shares 110 = .ok (.iconst 0, 1) := by decide +kernel
theorem ddA_shares_111 : decode cA_shares 111 = .ok (.ireturn, 1) := by decide +kernel
set_option maxHeartbeats 2000000 in
theorem zBA_shares_111 {G : GXM} {X : CxM} (hG : GokM G) (C : CoM G X cA_shares "HomeFreed") (N : mLM X = 6) {d : Nat} (hD : dpM X = d) (hd : 1 ≤ d)  {q : Int32 × Mem} (E : EnM G X (some .int) (some (.int q.1)) q.2 0 0) {w0 : Int32} {M : Mem} (h : BA_shares_111 w0 M = some q) : ZM G X 111 [] [.int w0] M 0 0 := by
  unfold BA_shares_111 at h
  obtain rfl := Option.some.inj h
  exact zz_iret C E ddA_shares_111
set_option maxHeartbeats 2000000 in
theorem zBA_shares_88 {G : GXM} {X : CxM} (hG : GokM G) (C : CoM G X cA_shares "HomeFreed") (N : mLM X = 6) {d : Nat} (hD : dpM X = d) (hd : 1 ≤ d) {v0 : Nat} {v1 : Int32} {v2 : Int32} {K : Nat → Int32 → Int32 → Int32 → Int32 → Int32 → Mem → Option ((Int32 × Int32 × Mem))} {q : (Int32 × Int32 × Mem)} (hK : ∀ (v3 : Int32) (v4 : Int32) (v5 : Int32) (M : Mem), K v0 v1 v2 v3 v4 v5 M = some q → ZM G X 32 [(0, .ref v0), (1, .int v1), (2, .int v2), (3, .int v3), (4, .int v4), (5, .int v5)] [] M 0 0) (hx0 : ∀ y : Int32 × Int32 × Mem, q = y → ZM G X 96 [(2, .int v2), (3, .int y.1), (4, .int y.2.1)] [] y.2.2 0 0) {v4 : Int32} {v5 : Int32} {w0 : Int32} {w1 : Int32} {M : Mem} (h : BA_shares_88 K v0 v1 v2 v4 v5 w0 w1 M = some q) : ZM G X 88 [(0, .ref v0), (1, .int v1), (2, .int v2), (4, .int v4), (5, .int v5)] [.int w1, .int w0] M 0 0 := by
  unfold BA_shares_88 at h
  refine zz_iadd C ddA_shares_88 ?_
  refine zz_istore_n (L1 := [(3, .int (w0 + w1)), (0, .ref v0), (1, .int v1), (2, .int v2), (4, .int v4), (5, .int v5)]) C ddA_shares_89 rfl N (by decide) rfl ?_
  refine zz_iinc (v := v5 + 1) (L1 := [(5, .int (v5 + 1)), (3, .int (w0 + w1)), (0, .ref v0), (1, .int v1), (2, .int v2), (4, .int v4)]) C 5 ddA_shares_90 rfl rfl N (by decide) rfl ?_
  refine zz_goto (tgt := 32) C ddA_shares_93 rfl ?_
  refine zz_loc (L1 := [(0, .ref v0), (1, .int v1), (2, .int v2), (3, .int (w0 + w1)), (4, .int v4), (5, .int (v5 + 1))]) [2, 3, 4, 1, 5, 0] rfl ?_
  exact hK _ _ _ _ h
set_option maxHeartbeats 2000000 in
theorem zBA_shares_32 {G : GXM} {X : CxM} (hG : GokM G) (C : CoM G X cA_shares "HomeFreed") (N : mLM X = 6) {d : Nat} (hD : dpM X = d) (hd : 1 ≤ d) {v0 : Nat} {v1 : Int32} {v2 : Int32} {K : Nat → Int32 → Int32 → Int32 → Int32 → Int32 → Mem → Option ((Int32 × Int32 × Mem))} {q : (Int32 × Int32 × Mem)} (hK : ∀ (v3 : Int32) (v4 : Int32) (v5 : Int32) (M : Mem), K v0 v1 v2 v3 v4 v5 M = some q → ZM G X 32 [(0, .ref v0), (1, .int v1), (2, .int v2), (3, .int v3), (4, .int v4), (5, .int v5)] [] M 0 0) (hx0 : ∀ y : Int32 × Int32 × Mem, q = y → ZM G X 96 [(2, .int v2), (3, .int y.1), (4, .int y.2.1)] [] y.2.2 0 0) {v3 : Int32} {v4 : Int32} {v5 : Int32} {M : Mem} (h : BA_shares_32 K v0 v1 v2 v3 v4 v5 M = some q) : ZM G X 32 [(0, .ref v0), (1, .int v1), (2, .int v2), (3, .int v3), (4, .int v4), (5, .int v5)] [] M 0 0 := by
  unfold BA_shares_32 at h
  refine zz_iload C 5 ddA_shares_32 rfl ?_
  refine zz_aload_n C 0 ddA_shares_34 rfl rfl ?_
  obtain ⟨h1, h⟩ := gdN h
  obtain ⟨h2, h⟩ := gdN h
  refine zz_getr C ddA_shares_35 fl_A_28 rfl h1 (of_decide_eq_true h2) ?_
  obtain ⟨h3, h⟩ := gdN h
  obtain ⟨h4, h⟩ := gdN h
  refine zz_getr C ddA_shares_38 fl_A_136 rfl h3 (of_decide_eq_true h4) ?_
  refine zz_iconst (v := 1) C ddA_shares_41 (by decide) ?_
  obtain ⟨h5, h⟩ := gdN h
  refine zz_iaload C ddA_shares_42 h5 ?_
  refine zz_icmp_ge (tgt := 96) C ddA_shares_43 rfl (fun hc => ?_) (fun hc => ?_)
  · replace h := iteT h hc
    refine zz_loc (L1 := [(2, .int v2), (3, .int v3), (4, .int v4)]) [2, 3, 4] rfl ?_
    exact hx0 _ (Option.some.inj h).symm
  · replace h := iteF h hc
    refine zz_iload C 4 ddA_shares_46 rfl ?_
    refine zz_aload_n C 0 ddA_shares_48 rfl rfl ?_
    obtain ⟨h6, h⟩ := gdN h
    refine zz_getr C ddA_shares_49 fl_A_55 rfl h1 (of_decide_eq_true h6) ?_
    refine zz_iload C 5 ddA_shares_52 rfl ?_
    obtain ⟨h8, h⟩ := gdN h
    obtain ⟨q7, hq7, h⟩ := bindN h
    refine zz_callV0 (As := [.int v5]) C ddA_shares_54 wd_972 my_H_usedOf mv_H_usedOf ⟨_, rfl, rfl⟩ (xH_usedOf hG (d - 1) (by omega) hq7) (by omega) h8 rfl rfl (Nat.le_of_ble_eq_true rfl) ?_
    refine zz_iadd C ddA_shares_57 ?_
    refine zz_istore (L1 := [(4, .int (v4 + q7.1)), (0, .ref v0), (1, .int v1), (2, .int v2), (3, .int v3), (5, .int v5)]) C ddA_shares_58 N (by decide) rfl ?_
    refine zz_iload_n C 4 ddA_shares_60 rfl rfl ?_
    refine zz_aload_n C 1 ddA_shares_61 rfl rfl ?_
    obtain ⟨h9, h⟩ := gdN h
    obtain ⟨h10, h⟩ := gdN h
    refine zz_getr C ddA_shares_62 fl_A_55 rfl h9 (of_decide_eq_true h10) ?_
    obtain ⟨h11, h⟩ := gdN h
    obtain ⟨h12, h⟩ := gdN h
    refine zz_getr C ddA_shares_65 fl_A_159 rfl h11 (of_decide_eq_true h12) ?_
    refine zz_iload C 5 ddA_shares_68 rfl ?_
    obtain ⟨h13, h⟩ := gdN h
    refine zz_iaload C ddA_shares_70 h13 ?_
    refine zz_iload_n C 2 ddA_shares_71 rfl rfl ?_
    refine zz_icmp_ne (tgt := 87) C ddA_shares_72 rfl (fun hc => ?_) (fun hc => ?_)
    · replace h := iteF h hc
      refine zz_iconst (v := 0) C ddA_shares_87 (by decide) ?_
      refine zz_loc (L1 := [(0, .ref v0), (1, .int v1), (2, .int v2), (4, .int (v4 + q7.1)), (5, .int v5)]) [1, 2, 3, 0, 5] rfl ?_
      exact zBA_shares_88 hG C N hD hd hK hx0 h
    · replace h := iteT h hc
      refine zz_aload_n C 1 ddA_shares_75 rfl rfl ?_
      refine zz_getr C ddA_shares_76 fl_A_55 rfl h9 (of_decide_eq_true h10) ?_
      refine zz_iload C 5 ddA_shares_79 rfl ?_
      obtain ⟨q14, hq14, h⟩ := bindN h
      refine zz_callV0 (As := [.int v5]) C ddA_shares_81 wd_972 my_H_usedOf mv_H_usedOf ⟨_, rfl, rfl⟩ (xH_usedOf hG (d - 1) (by omega) hq14) (by omega) h11 rfl rfl (Nat.le_of_ble_eq_true rfl) ?_
      refine zz_goto (tgt := 88) C ddA_shares_84 rfl ?_
      refine zz_loc (L1 := [(0, .ref v0), (1, .int v1), (2, .int v2), (4, .int (v4 + q7.1)), (5, .int v5)]) [1, 2, 3, 0, 5] rfl ?_
      exact zBA_shares_88 hG C N hD hd hK hx0 h
set_option maxHeartbeats 2000000 in
theorem zLA_shares_32 {G : GXM} {X : CxM} (hG : GokM G) (C : CoM G X cA_shares "HomeFreed") (N : mLM X = 6) {d : Nat} (hD : dpM X = d) (hd : 1 ≤ d) {v0 : Nat} {v1 : Int32} {v2 : Int32} {q : (Int32 × Int32 × Mem)} : ∀ (f : Nat) (v3 : Int32) (v4 : Int32) (v5 : Int32) (M : Mem), LA_shares_32 f v0 v1 v2 v3 v4 v5 M = some q → (hx0 : ∀ y : Int32 × Int32 × Mem, q = y → ZM G X 96 [(2, .int v2), (3, .int y.1), (4, .int y.2.1)] [] y.2.2 0 0) → ZM G X 32 [(0, .ref v0), (1, .int v1), (2, .int v2), (3, .int v3), (4, .int v4), (5, .int v5)] [] M 0 0 := by
  intro f
  induction f with
  | zero => intro v3 v4 v5 M h; cases h
  | succ f ih =>
    intro v3 v4 v5 M h hx0
    exact zBA_shares_32 hG C N hD hd (K := LA_shares_32 f) (q := q) (fun v3 v4 v5 M h => ih v3 v4 v5 M h hx0) hx0 h
set_option maxHeartbeats 2000000 in
theorem zBA_shares_22 {G : GXM} {X : CxM} (hG : GokM G) (C : CoM G X cA_shares "HomeFreed") (N : mLM X = 6) {d : Nat} (hD : dpM X = d) (hd : 1 ≤ d)  {q : Int32 × Mem} (E : EnM G X (some .int) (some (.int q.1)) q.2 0 0) {M : Mem} (h : BA_shares_22 M = some q) : ZM G X 22 [] [] M 0 0 := by
  unfold BA_shares_22 at h
  refine zz_iconst (v := (-1)) C ddA_shares_22 (by decide) ?_
  obtain rfl := Option.some.inj h
  exact zz_iret C E ddA_shares_23
set_option maxHeartbeats 2000000 in
theorem xA_shares {G : GXM} {l : Launch} (hG : GokM G) (d : Nat) (hd : 1 ≤ d) {v0 : Nat} {v1 : Int32} {v2 : Int32} {M : Mem} {q : Int32 × Mem} (h : fA_shares v0 v1 v2 M = some q) : ExM G l d 0 0 yA_shares cA_shares 6 (some .int) [.ref v0, .int v1, .int v2] M (some (.int q.1)) q.2 := by
  refine ex_of hG (by decide +kernel) (Nat.le_of_ble_eq_true rfl) ?_
  intro X hl C E N hD hn
  show ZM G X 0 [(0, .ref v0), (1, .int v1), (2, .int v2)] [] M 0 0
  unfold fA_shares at h
  refine zz_aload_n C 0 ddA_shares_0 rfl rfl ?_
  obtain ⟨h1, h⟩ := gdN h
  obtain ⟨h2, h⟩ := gdN h
  refine zz_getr C ddA_shares_1 fl_A_55 rfl h1 (of_decide_eq_true h2) ?_
  refine zz_iload_n C 1 ddA_shares_4 rfl rfl ?_
  obtain ⟨h4, h⟩ := gdN h
  obtain ⟨q3, hq3, h⟩ := bindN h
  refine zz_callV0 (As := [.int v1]) C ddA_shares_5 wd_602 my_H_isThread mv_H_isThread ⟨_, rfl, rfl⟩ (xH_isThread hG (d - 1) (by omega) hq3) (by omega) h4 rfl rfl (Nat.le_of_ble_eq_true rfl) ?_
  refine zz_if_eq (tgt := 22) C ddA_shares_8 rfl (fun hc => ?_) (fun hc => ?_)
  · replace h := iteT h hc
    refine zz_loc (L1 := []) [] rfl ?_
    exact zBA_shares_22 hG C N hD hd E h
  · replace h := iteF h hc
    refine zz_iload_n C 2 ddA_shares_11 rfl rfl ?_
    refine zz_if_lt (tgt := 22) C ddA_shares_12 rfl (fun hc => ?_) (fun hc => ?_)
    · replace h := iteT h hc
      refine zz_loc (L1 := []) [] rfl ?_
      exact zBA_shares_22 hG C N hD hd E h
    · replace h := iteF h hc
      refine zz_iload_n C 2 ddA_shares_15 rfl rfl ?_
      refine zz_sipush (v := 999) C ddA_shares_16 (by decide) ?_
      refine zz_icmp_le (tgt := 24) C ddA_shares_19 rfl (fun hc => ?_) (fun hc => ?_)
      · replace h := iteT h hc
        refine zz_iconst (v := 0) C ddA_shares_24 (by decide) ?_
        refine zz_istore_n (L1 := [(3, .int 0), (0, .ref v0), (1, .int v1), (2, .int v2)]) C ddA_shares_25 rfl N (by decide) rfl ?_
        refine zz_iconst (v := 0) C ddA_shares_26 (by decide) ?_
        refine zz_istore (L1 := [(4, .int 0), (3, .int 0), (0, .ref v0), (1, .int v1), (2, .int v2)]) C ddA_shares_27 N (by decide) rfl ?_
        refine zz_iconst (v := 0) C ddA_shares_29 (by decide) ?_
        refine zz_istore (L1 := [(5, .int 0), (4, .int 0), (3, .int 0), (0, .ref v0), (1, .int v1), (2, .int v2)]) C ddA_shares_30 N (by decide) rfl ?_
        refine zz_loc (L1 := [(0, .ref v0), (1, .int v1), (2, .int v2), (3, .int 0), (4, .int 0), (5, .int 0)]) [3, 4, 5, 2, 1, 0] rfl ?_
        obtain ⟨q5, hq5, h⟩ := bindN h
        refine zLA_shares_32 hG C N hD hd 1000000 _ _ _ _ hq5 ?_
        · intro y6 eq5; replace eq5 := eq5.symm; subst eq5
          refine zz_iload C 2 ddA_shares_96 rfl ?_
          refine zz_if_le (tgt := 110) C ddA_shares_98 rfl (fun hc => ?_) (fun hc => ?_)
          · replace h := iteT h hc
            refine zz_iconst (v := 0) C ddA_shares_110 (by decide) ?_
            refine zz_loc (L1 := []) [] rfl ?_
            exact zBA_shares_111 hG C N hD hd E h
          · replace h := iteF h hc
            refine zz_iload_n C 0 ddA_shares_101 rfl rfl ?_
            refine zz_iload_n C 1 ddA_shares_102 rfl rfl ?_
            refine zz_imul C ddA_shares_103 ?_
            refine zz_iload C 2 ddA_shares_104 rfl ?_
            obtain ⟨h7, h⟩ := gdN h
            refine zz_idiv C ddA_shares_106 (of_decide_eq_true h7) ?_
            refine zz_goto (tgt := 111) C ddA_shares_107 rfl ?_
            refine zz_loc (L1 := []) [] rfl ?_
            exact zBA_shares_111 hG C N hD hd E h
      · replace h := iteF h hc
        refine zz_loc (L1 := []) [] rfl ?_
        exact zBA_shares_22 hG C N hD hd E h
theorem ddA_fullest_0 : decode cA_fullest 0 = .ok (.iconst 0, 1) := by decide +kernel
theorem ddA_fullest_1 : decode cA_fullest 1 = .ok (.istore_n 1, 1) := by decide +kernel
theorem ddA_fullest_2 : decode cA_fullest 2 = .ok (.iconst 1, 1) := by decide +kernel
theorem ddA_fullest_3 : decode cA_fullest 3 = .ok (.istore_n 2, 1) := by decide +kernel
theorem ddA_fullest_4 : decode cA_fullest 4 = .ok (.iload_n 2, 1) := by decide +kernel
theorem ddA_fullest_5 : decode cA_fullest 5 = .ok (.aload_n 0, 1) := by decide +kernel
theorem ddA_fullest_6 : decode cA_fullest 6 = .ok (.getfield 28, 3) := by decide +kernel
theorem ddA_fullest_9 : decode cA_fullest 9 = .ok (.getfield 136, 3) := by decide +kernel
theorem ddA_fullest_12 : decode cA_fullest 12 = .ok (.iconst 1, 1) := by decide +kernel
theorem ddA_fullest_13 : decode cA_fullest 13 = .ok (.iaload, 1) := by decide +kernel
theorem ddA_fullest_14 : decode cA_fullest 14 = .ok (.if_icmp .ge 34, 3) := by decide +kernel
theorem ddA_fullest_17 : decode cA_fullest 17 = .ok (.aload_n 0, 1) := by decide +kernel
theorem ddA_fullest_18 : decode cA_fullest 18 = .ok (.getfield 55, 3) := by decide +kernel
theorem ddA_fullest_21 : decode cA_fullest 21 = .ok (.iload_n 2, 1) := by decide +kernel
theorem ddA_fullest_22 : decode cA_fullest 22 = .ok (.invokevirtual 165, 3) := by decide +kernel
theorem ddA_fullest_25 : decode cA_fullest 25 = .ok (.aload_n 0, 1) := by decide +kernel
theorem ddA_fullest_26 : decode cA_fullest 26 = .ok (.getfield 55, 3) := by decide +kernel
theorem ddA_fullest_29 : decode cA_fullest 29 = .ok (.iload_n 1, 1) := by decide +kernel
theorem ddA_fullest_30 : decode cA_fullest 30 = .ok (.invokevirtual 165, 3) := by decide +kernel
theorem ddA_fullest_33 : decode cA_fullest 33 = .ok (.if_icmp .le 7, 3) := by decide +kernel
theorem ddA_fullest_36 : decode cA_fullest 36 = .ok (.iload_n 2, 1) := by decide +kernel
theorem ddA_fullest_37 : decode cA_fullest 37 = .ok (.goto 4, 3) := by decide +kernel
theorem ddA_fullest_40 : decode cA_fullest 40 = .ok (.iload_n 1, 1) := by decide +kernel
theorem ddA_fullest_41 : decode cA_fullest 41 = .ok (.istore_n 1, 1) := by decide +kernel
theorem ddA_fullest_42 : decode cA_fullest 42 = .ok (.iinc 2 1, 3) := by decide +kernel
theorem ddA_fullest_45 : decode cA_fullest 45 = .ok (.goto (-41), 3) := by decide +kernel
theorem ddA_fullest_48 : decode cA_fullest 48 = .ok (.iload_n 1, 1) := by decide +kernel
theorem ddA_fullest_49 : decode cA_fullest 49 = .ok (.ireturn, 1) := by decide +kernel
set_option maxHeartbeats 2000000 in
theorem zBA_fullest_41 {G : GXM} {X : CxM} (hG : GokM G) (C : CoM G X cA_fullest "HomeFreed") (N : mLM X = 3) {d : Nat} (hD : dpM X = d) (hd : 1 ≤ d) {v0 : Nat} {K : Nat → Int32 → Int32 → Mem → Option ((Int32 × Mem))} {q : (Int32 × Mem)} (hK : ∀ (v1 : Int32) (v2 : Int32) (M : Mem), K v0 v1 v2 M = some q → ZM G X 4 [(0, .ref v0), (1, .int v1), (2, .int v2)] [] M 0 0) (hr : ∀ r : Int32 × Mem, q =  r → EnM G X (some .int) (some (.int r.1)) r.2 0 0) {v2 : Int32} {w0 : Int32} {M : Mem} (h : BA_fullest_41 K v0 v2 w0 M = some q) : ZM G X 41 [(0, .ref v0), (2, .int v2)] [.int w0] M 0 0 := by
  unfold BA_fullest_41 at h
  refine zz_istore_n (L1 := [(1, .int w0), (0, .ref v0), (2, .int v2)]) C ddA_fullest_41 rfl N (by decide) rfl ?_
  refine zz_iinc (v := v2 + 1) (L1 := [(2, .int (v2 + 1)), (1, .int w0), (0, .ref v0)]) C 2 ddA_fullest_42 rfl rfl N (by decide) rfl ?_
  refine zz_goto (tgt := 4) C ddA_fullest_45 rfl ?_
  refine zz_loc (L1 := [(0, .ref v0), (1, .int w0), (2, .int (v2 + 1))]) [2, 1, 0] rfl ?_
  exact hK _ _ _ h
set_option maxHeartbeats 2000000 in
theorem zBA_fullest_4 {G : GXM} {X : CxM} (hG : GokM G) (C : CoM G X cA_fullest "HomeFreed") (N : mLM X = 3) {d : Nat} (hD : dpM X = d) (hd : 1 ≤ d) {v0 : Nat} {K : Nat → Int32 → Int32 → Mem → Option ((Int32 × Mem))} {q : (Int32 × Mem)} (hK : ∀ (v1 : Int32) (v2 : Int32) (M : Mem), K v0 v1 v2 M = some q → ZM G X 4 [(0, .ref v0), (1, .int v1), (2, .int v2)] [] M 0 0) (hr : ∀ r : Int32 × Mem, q =  r → EnM G X (some .int) (some (.int r.1)) r.2 0 0) {v1 : Int32} {v2 : Int32} {M : Mem} (h : BA_fullest_4 K v0 v1 v2 M = some q) : ZM G X 4 [(0, .ref v0), (1, .int v1), (2, .int v2)] [] M 0 0 := by
  unfold BA_fullest_4 at h
  refine zz_iload_n C 2 ddA_fullest_4 rfl rfl ?_
  refine zz_aload_n C 0 ddA_fullest_5 rfl rfl ?_
  obtain ⟨h1, h⟩ := gdN h
  obtain ⟨h2, h⟩ := gdN h
  refine zz_getr C ddA_fullest_6 fl_A_28 rfl h1 (of_decide_eq_true h2) ?_
  obtain ⟨h3, h⟩ := gdN h
  obtain ⟨h4, h⟩ := gdN h
  refine zz_getr C ddA_fullest_9 fl_A_136 rfl h3 (of_decide_eq_true h4) ?_
  refine zz_iconst (v := 1) C ddA_fullest_12 (by decide) ?_
  obtain ⟨h5, h⟩ := gdN h
  refine zz_iaload C ddA_fullest_13 h5 ?_
  refine zz_icmp_ge (tgt := 48) C ddA_fullest_14 rfl (fun hc => ?_) (fun hc => ?_)
  · replace h := iteT h hc
    refine zz_iload_n C 1 ddA_fullest_48 rfl rfl ?_
    exact zz_iret C (hr _ (Option.some.inj h).symm) ddA_fullest_49
  · replace h := iteF h hc
    refine zz_aload_n C 0 ddA_fullest_17 rfl rfl ?_
    obtain ⟨h6, h⟩ := gdN h
    refine zz_getr C ddA_fullest_18 fl_A_55 rfl h1 (of_decide_eq_true h6) ?_
    refine zz_iload_n C 2 ddA_fullest_21 rfl rfl ?_
    obtain ⟨h8, h⟩ := gdN h
    obtain ⟨q7, hq7, h⟩ := bindN h
    refine zz_callV0 (As := [.int v2]) C ddA_fullest_22 wd_972 my_H_usedOf mv_H_usedOf ⟨_, rfl, rfl⟩ (xH_usedOf hG (d - 1) (by omega) hq7) (by omega) h8 rfl rfl (Nat.le_of_ble_eq_true rfl) ?_
    refine zz_aload_n C 0 ddA_fullest_25 rfl rfl ?_
    obtain ⟨h9, h⟩ := gdN h
    obtain ⟨h10, h⟩ := gdN h
    refine zz_getr C ddA_fullest_26 fl_A_55 rfl h9 (of_decide_eq_true h10) ?_
    refine zz_iload_n C 1 ddA_fullest_29 rfl rfl ?_
    obtain ⟨h12, h⟩ := gdN h
    obtain ⟨q11, hq11, h⟩ := bindN h
    refine zz_callV0 (As := [.int v1]) C ddA_fullest_30 wd_972 my_H_usedOf mv_H_usedOf ⟨_, rfl, rfl⟩ (xH_usedOf hG (d - 1) (by omega) hq11) (by omega) h12 rfl rfl (Nat.le_of_ble_eq_true rfl) ?_
    refine zz_icmp_le (tgt := 40) C ddA_fullest_33 rfl (fun hc => ?_) (fun hc => ?_)
    · replace h := iteT h hc
      refine zz_iload_n C 1 ddA_fullest_40 rfl rfl ?_
      refine zz_loc (L1 := [(0, .ref v0), (2, .int v2)]) [0, 2] rfl ?_
      exact zBA_fullest_41 hG C N hD hd hK hr h
    · replace h := iteF h hc
      refine zz_iload_n C 2 ddA_fullest_36 rfl rfl ?_
      refine zz_goto (tgt := 41) C ddA_fullest_37 rfl ?_
      refine zz_loc (L1 := [(0, .ref v0), (2, .int v2)]) [0, 2] rfl ?_
      exact zBA_fullest_41 hG C N hD hd hK hr h
set_option maxHeartbeats 2000000 in
theorem zLA_fullest_4 {G : GXM} {X : CxM} (hG : GokM G) (C : CoM G X cA_fullest "HomeFreed") (N : mLM X = 3) {d : Nat} (hD : dpM X = d) (hd : 1 ≤ d) {v0 : Nat} {q : (Int32 × Mem)} : ∀ (f : Nat) (v1 : Int32) (v2 : Int32) (M : Mem), LA_fullest_4 f v0 v1 v2 M = some q → (hr : ∀ r : Int32 × Mem, q =  r → EnM G X (some .int) (some (.int r.1)) r.2 0 0) → ZM G X 4 [(0, .ref v0), (1, .int v1), (2, .int v2)] [] M 0 0 := by
  intro f
  induction f with
  | zero => intro v1 v2 M h; cases h
  | succ f ih =>
    intro v1 v2 M h hr
    exact zBA_fullest_4 hG C N hD hd (K := LA_fullest_4 f) (q := q) (fun v1 v2 M h => ih v1 v2 M h hr) hr h
set_option maxHeartbeats 2000000 in
theorem xA_fullest {G : GXM} {l : Launch} (hG : GokM G) (d : Nat) (hd : 1 ≤ d) {v0 : Nat} {M : Mem} {q : Int32 × Mem} (h : fA_fullest v0 M = some q) : ExM G l d 0 0 yA_fullest cA_fullest 3 (some .int) [.ref v0] M (some (.int q.1)) q.2 := by
  refine ex_of hG (by decide +kernel) (Nat.le_of_ble_eq_true rfl) ?_
  intro X hl C E N hD hn
  show ZM G X 0 [(0, .ref v0)] [] M 0 0
  unfold fA_fullest at h
  refine zz_iconst (v := 0) C ddA_fullest_0 (by decide) ?_
  refine zz_istore_n (L1 := [(1, .int 0), (0, .ref v0)]) C ddA_fullest_1 rfl N (by decide) rfl ?_
  refine zz_iconst (v := 1) C ddA_fullest_2 (by decide) ?_
  refine zz_istore_n (L1 := [(2, .int 1), (1, .int 0), (0, .ref v0)]) C ddA_fullest_3 rfl N (by decide) rfl ?_
  refine zz_loc (L1 := [(0, .ref v0), (1, .int 0), (2, .int 1)]) [2, 1, 0] rfl ?_
  obtain ⟨q1, hq1, h⟩ := bindN h
  refine zLA_fullest_4 hG C N hD hd 1000000 _ _ _ hq1 ?_
  · intro r2 eq1; replace eq1 := eq1.symm; subst eq1
    obtain rfl := Option.some.inj h
    exact E
theorem ddA_richest_0 : decode cA_richest 0 = .ok (.iconst 0, 1) := by decide +kernel
theorem ddA_richest_1 : decode cA_richest 1 = .ok (.istore_n 1, 1) := by decide +kernel
theorem ddA_richest_2 : decode cA_richest 2 = .ok (.iconst 1, 1) := by decide +kernel
theorem ddA_richest_3 : decode cA_richest 3 = .ok (.istore_n 2, 1) := by decide +kernel
theorem ddA_richest_4 : decode cA_richest 4 = .ok (.iload_n 2, 1) := by decide +kernel
theorem ddA_richest_5 : decode cA_richest 5 = .ok (.aload_n 0, 1) := by decide +kernel
theorem ddA_richest_6 : decode cA_richest 6 = .ok (.getfield 28, 3) := by decide +kernel
theorem ddA_richest_9 : decode cA_richest 9 = .ok (.getfield 136, 3) := by decide +kernel
theorem ddA_richest_12 : decode cA_richest 12 = .ok (.iconst 0, 1) := by decide +kernel
theorem ddA_richest_13 : decode cA_richest 13 = .ok (.iaload, 1) := by decide +kernel
theorem ddA_richest_14 : decode cA_richest 14 = .ok (.if_icmp .ge 34, 3) := by decide +kernel
theorem ddA_richest_17 : decode cA_richest 17 = .ok (.aload_n 0, 1) := by decide +kernel
theorem ddA_richest_18 : decode cA_richest 18 = .ok (.getfield 55, 3) := by decide +kernel
theorem ddA_richest_21 : decode cA_richest 21 = .ok (.iload_n 2, 1) := by decide +kernel
theorem ddA_richest_22 : decode cA_richest 22 = .ok (.invokevirtual 193, 3) := by decide +kernel
theorem ddA_richest_25 : decode cA_richest 25 = .ok (.aload_n 0, 1) := by decide +kernel
theorem ddA_richest_26 : decode cA_richest 26 = .ok (.getfield 55, 3) := by decide +kernel
theorem ddA_richest_29 : decode cA_richest 29 = .ok (.iload_n 1, 1) := by decide +kernel
theorem ddA_richest_30 : decode cA_richest 30 = .ok (.invokevirtual 193, 3) := by decide +kernel
theorem ddA_richest_33 : decode cA_richest 33 = .ok (.if_icmp .le 7, 3) := by decide +kernel
theorem ddA_richest_36 : decode cA_richest 36 = .ok (.iload_n 2, 1) := by decide +kernel
theorem ddA_richest_37 : decode cA_richest 37 = .ok (.goto 4, 3) := by decide +kernel
theorem ddA_richest_40 : decode cA_richest 40 = .ok (.iload_n 1, 1) := by decide +kernel
theorem ddA_richest_41 : decode cA_richest 41 = .ok (.istore_n 1, 1) := by decide +kernel
theorem ddA_richest_42 : decode cA_richest 42 = .ok (.iinc 2 1, 3) := by decide +kernel
theorem ddA_richest_45 : decode cA_richest 45 = .ok (.goto (-41), 3) := by decide +kernel
theorem ddA_richest_48 : decode cA_richest 48 = .ok (.iload_n 1, 1) := by decide +kernel
theorem ddA_richest_49 : decode cA_richest 49 = .ok (.ireturn, 1) := by decide +kernel
set_option maxHeartbeats 2000000 in
theorem zBA_richest_41 {G : GXM} {X : CxM} (hG : GokM G) (C : CoM G X cA_richest "HomeFreed") (N : mLM X = 3) {d : Nat} (hD : dpM X = d) (hd : 1 ≤ d) {v0 : Nat} {K : Nat → Int32 → Int32 → Mem → Option ((Int32 × Mem))} {q : (Int32 × Mem)} (hK : ∀ (v1 : Int32) (v2 : Int32) (M : Mem), K v0 v1 v2 M = some q → ZM G X 4 [(0, .ref v0), (1, .int v1), (2, .int v2)] [] M 0 0) (hr : ∀ r : Int32 × Mem, q =  r → EnM G X (some .int) (some (.int r.1)) r.2 0 0) {v2 : Int32} {w0 : Int32} {M : Mem} (h : BA_richest_41 K v0 v2 w0 M = some q) : ZM G X 41 [(0, .ref v0), (2, .int v2)] [.int w0] M 0 0 := by
  unfold BA_richest_41 at h
  refine zz_istore_n (L1 := [(1, .int w0), (0, .ref v0), (2, .int v2)]) C ddA_richest_41 rfl N (by decide) rfl ?_
  refine zz_iinc (v := v2 + 1) (L1 := [(2, .int (v2 + 1)), (1, .int w0), (0, .ref v0)]) C 2 ddA_richest_42 rfl rfl N (by decide) rfl ?_
  refine zz_goto (tgt := 4) C ddA_richest_45 rfl ?_
  refine zz_loc (L1 := [(0, .ref v0), (1, .int w0), (2, .int (v2 + 1))]) [2, 1, 0] rfl ?_
  exact hK _ _ _ h
set_option maxHeartbeats 2000000 in
theorem zBA_richest_4 {G : GXM} {X : CxM} (hG : GokM G) (C : CoM G X cA_richest "HomeFreed") (N : mLM X = 3) {d : Nat} (hD : dpM X = d) (hd : 1 ≤ d) {v0 : Nat} {K : Nat → Int32 → Int32 → Mem → Option ((Int32 × Mem))} {q : (Int32 × Mem)} (hK : ∀ (v1 : Int32) (v2 : Int32) (M : Mem), K v0 v1 v2 M = some q → ZM G X 4 [(0, .ref v0), (1, .int v1), (2, .int v2)] [] M 0 0) (hr : ∀ r : Int32 × Mem, q =  r → EnM G X (some .int) (some (.int r.1)) r.2 0 0) {v1 : Int32} {v2 : Int32} {M : Mem} (h : BA_richest_4 K v0 v1 v2 M = some q) : ZM G X 4 [(0, .ref v0), (1, .int v1), (2, .int v2)] [] M 0 0 := by
  unfold BA_richest_4 at h
  refine zz_iload_n C 2 ddA_richest_4 rfl rfl ?_
  refine zz_aload_n C 0 ddA_richest_5 rfl rfl ?_
  obtain ⟨h1, h⟩ := gdN h
  obtain ⟨h2, h⟩ := gdN h
  refine zz_getr C ddA_richest_6 fl_A_28 rfl h1 (of_decide_eq_true h2) ?_
  obtain ⟨h3, h⟩ := gdN h
  obtain ⟨h4, h⟩ := gdN h
  refine zz_getr C ddA_richest_9 fl_A_136 rfl h3 (of_decide_eq_true h4) ?_
  refine zz_iconst (v := 0) C ddA_richest_12 (by decide) ?_
  obtain ⟨h5, h⟩ := gdN h
  refine zz_iaload C ddA_richest_13 h5 ?_
  refine zz_icmp_ge (tgt := 48) C ddA_richest_14 rfl (fun hc => ?_) (fun hc => ?_)
  · replace h := iteT h hc
    refine zz_iload_n C 1 ddA_richest_48 rfl rfl ?_
    exact zz_iret C (hr _ (Option.some.inj h).symm) ddA_richest_49
  · replace h := iteF h hc
    refine zz_aload_n C 0 ddA_richest_17 rfl rfl ?_
    obtain ⟨h6, h⟩ := gdN h
    refine zz_getr C ddA_richest_18 fl_A_55 rfl h1 (of_decide_eq_true h6) ?_
    refine zz_iload_n C 2 ddA_richest_21 rfl rfl ?_
    obtain ⟨h8, h⟩ := gdN h
    obtain ⟨q7, hq7, h⟩ := bindN h
    refine zz_callV0 (As := [.int v2]) C ddA_richest_22 wd_611 my_H_pagesOf mv_H_pagesOf ⟨_, rfl, rfl⟩ (xH_pagesOf hG (d - 1) (by omega) hq7) (by omega) h8 rfl rfl (Nat.le_of_ble_eq_true rfl) ?_
    refine zz_aload_n C 0 ddA_richest_25 rfl rfl ?_
    obtain ⟨h9, h⟩ := gdN h
    obtain ⟨h10, h⟩ := gdN h
    refine zz_getr C ddA_richest_26 fl_A_55 rfl h9 (of_decide_eq_true h10) ?_
    refine zz_iload_n C 1 ddA_richest_29 rfl rfl ?_
    obtain ⟨h12, h⟩ := gdN h
    obtain ⟨q11, hq11, h⟩ := bindN h
    refine zz_callV0 (As := [.int v1]) C ddA_richest_30 wd_611 my_H_pagesOf mv_H_pagesOf ⟨_, rfl, rfl⟩ (xH_pagesOf hG (d - 1) (by omega) hq11) (by omega) h12 rfl rfl (Nat.le_of_ble_eq_true rfl) ?_
    refine zz_icmp_le (tgt := 40) C ddA_richest_33 rfl (fun hc => ?_) (fun hc => ?_)
    · replace h := iteT h hc
      refine zz_iload_n C 1 ddA_richest_40 rfl rfl ?_
      refine zz_loc (L1 := [(0, .ref v0), (2, .int v2)]) [0, 2] rfl ?_
      exact zBA_richest_41 hG C N hD hd hK hr h
    · replace h := iteF h hc
      refine zz_iload_n C 2 ddA_richest_36 rfl rfl ?_
      refine zz_goto (tgt := 41) C ddA_richest_37 rfl ?_
      refine zz_loc (L1 := [(0, .ref v0), (2, .int v2)]) [0, 2] rfl ?_
      exact zBA_richest_41 hG C N hD hd hK hr h
set_option maxHeartbeats 2000000 in
theorem zLA_richest_4 {G : GXM} {X : CxM} (hG : GokM G) (C : CoM G X cA_richest "HomeFreed") (N : mLM X = 3) {d : Nat} (hD : dpM X = d) (hd : 1 ≤ d) {v0 : Nat} {q : (Int32 × Mem)} : ∀ (f : Nat) (v1 : Int32) (v2 : Int32) (M : Mem), LA_richest_4 f v0 v1 v2 M = some q → (hr : ∀ r : Int32 × Mem, q =  r → EnM G X (some .int) (some (.int r.1)) r.2 0 0) → ZM G X 4 [(0, .ref v0), (1, .int v1), (2, .int v2)] [] M 0 0 := by
  intro f
  induction f with
  | zero => intro v1 v2 M h; cases h
  | succ f ih =>
    intro v1 v2 M h hr
    exact zBA_richest_4 hG C N hD hd (K := LA_richest_4 f) (q := q) (fun v1 v2 M h => ih v1 v2 M h hr) hr h
set_option maxHeartbeats 2000000 in
theorem xA_richest {G : GXM} {l : Launch} (hG : GokM G) (d : Nat) (hd : 1 ≤ d) {v0 : Nat} {M : Mem} {q : Int32 × Mem} (h : fA_richest v0 M = some q) : ExM G l d 0 0 yA_richest cA_richest 3 (some .int) [.ref v0] M (some (.int q.1)) q.2 := by
  refine ex_of hG (by decide +kernel) (Nat.le_of_ble_eq_true rfl) ?_
  intro X hl C E N hD hn
  show ZM G X 0 [(0, .ref v0)] [] M 0 0
  unfold fA_richest at h
  refine zz_iconst (v := 0) C ddA_richest_0 (by decide) ?_
  refine zz_istore_n (L1 := [(1, .int 0), (0, .ref v0)]) C ddA_richest_1 rfl N (by decide) rfl ?_
  refine zz_iconst (v := 1) C ddA_richest_2 (by decide) ?_
  refine zz_istore_n (L1 := [(2, .int 1), (1, .int 0), (0, .ref v0)]) C ddA_richest_3 rfl N (by decide) rfl ?_
  refine zz_loc (L1 := [(0, .ref v0), (1, .int 0), (2, .int 1)]) [2, 1, 0] rfl ?_
  obtain ⟨q1, hq1, h⟩ := bindN h
  refine zLA_richest_4 hG C N hD hd 1000000 _ _ _ hq1 ?_
  · intro r2 eq1; replace eq1 := eq1.symm; subst eq1
    obtain rfl := Option.some.inj h
    exact E
