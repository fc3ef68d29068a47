theorem ddM_timesOf_0 : decode cM_timesOf 0 = .ok (.aload_n 0, 1) := by decide +kernel
theorem ddM_timesOf_1 : decode cM_timesOf 1 = .ok (.iload_n 1, 1) := by decide +kernel
theorem ddM_timesOf_2 : decode cM_timesOf 2 = .ok (.bipush 126, 2) := by decide +kernel
theorem ddM_timesOf_4 : decode cM_timesOf 4 = .ok (.iload_n 2, 1) := by decide +kernel
theorem ddM_timesOf_5 : decode cM_timesOf 5 = .ok (.iadd, 1) := by decide +kernel
theorem ddM_timesOf_6 : decode cM_timesOf 6 = .ok (.invokevirtual 170, 3) := by decide +kernel
theorem ddM_timesOf_9 : decode cM_timesOf 9 = .ok (.istore_n 3, 1) := by decide +kernel
theorem ddM_timesOf_10 : decode cM_timesOf 10 = .ok (.iconst 0, 1) := by decide +kernel
theorem ddM_timesOf_11 : decode cM_timesOf 11 = .ok (.istore 4, 2) := by decide +kernel
theorem ddM_timesOf_13 : decode cM_timesOf 13 = .ok (.iload 4, 2) := by decide +kernel
theorem ddM_timesOf_15 : decode cM_timesOf 15 = .ok (.iconst 3, 1) := by decide +kernel
theorem ddM_timesOf_16 : decode cM_timesOf 16 = .ok (.if_icmp .ge 60, 3) := by decide +kernel
theorem ddM_timesOf_19 : decode cM_timesOf 19 = .ok (.iconst 1, 1) := by decide +kernel
theorem ddM_timesOf_20 : decode cM_timesOf 20 = .ok (.istore 5, 2) := by decide +kernel
theorem ddM_timesOf_22 : decode cM_timesOf 22 = .ok (.iload 5, 2) := by decide +kernel
theorem ddM_timesOf_24 : decode cM_timesOf 24 = .ok (.aload_n 0, 1) := by decide +kernel
theorem ddM_timesOf_25 : decode cM_timesOf 25 = .ok (.getfield 31, 3) := by decide +kernel
theorem ddM_timesOf_28 : decode cM_timesOf 28 = .ok (.iload_n 1, 1) := by decide +kernel
theorem ddM_timesOf_29 : decode cM_timesOf 29 = .ok (.iload 4, 2) := by decide +kernel
theorem ddM_timesOf_31 : decode cM_timesOf 31 = .ok (.invokestatic 173, 3) := by decide +kernel
theorem ddM_timesOf_34 : decode cM_timesOf 34 = .ok (.iaload, 1) := by decide +kernel
theorem ddM_timesOf_35 : decode cM_timesOf 35 = .ok (.if_icmp .gt 35, 3) := by decide +kernel
theorem ddM_timesOf_38 : decode cM_timesOf 38 = .ok (.iload_n 3, 1) := by decide +kernel
theorem ddM_timesOf_39 : decode cM_timesOf 39 = .ok (.aload_n 0, 1) := by decide +kernel
theorem ddM_timesOf_40 : decode cM_timesOf 40 = .ok (.getfield 31, 3) := by decide +kernel
theorem ddM_timesOf_43 : decode cM_timesOf 43 = .ok (.iload_n 1, 1) := by decide +kernel
theorem ddM_timesOf_44 : decode cM_timesOf 44 = .ok (.iload 4, 2) := by decide +kernel
theorem ddM_timesOf_46 : decode cM_timesOf 46 = .ok (.invokestatic 173, 3) := by decide +kernel
theorem ddM_timesOf_49 : decode cM_timesOf 49 = .ok (.iload 5, 2) := by decide +kernel
theorem ddM_timesOf_51 : decode cM_timesOf 51 = .ok (.iadd, 1) := by decide +kernel
theorem ddM_timesOf_52 : decode cM_timesOf 52 = .ok (.iaload, 1) := by decide +kernel
theorem ddM_timesOf_53 : decode cM_timesOf 53 = .ok (.iload_n 2, 1) := by decide +kernel
theorem ddM_timesOf_54 : decode cM_timesOf 54 = .ok (.if_icmp .ne 7, 3) := by decide +kernel
theorem ddM_timesOf_57 : decode cM_timesOf 57 = .ok (.iconst 1, 1) := by decide +kernel
theorem ddM_timesOf_58 : decode cM_timesOf 58 = .ok (.goto 4, 3) := by decide +kernel
theorem ddM_timesOf_61 : decode cM_timesOf 61 = .ok (.iconst 0, 1) := by decide +kernel
theorem ddM_timesOf_62 : decode cM_timesOf 62 = .ok (.iadd, 1) := by decide +kernel
theorem ddM_timesOf_63 : decode cM_timesOf 63 = .ok (.istore_n 3, 1) := by decide +kernel
theorem ddM_timesOf_64 : decode cM_timesOf 64 = .ok (.iinc 5 1, 3) := by decide +kernel
theorem ddM_timesOf_67 : decode cM_timesOf 67 = .ok (.goto (-45), 3) := by decide +kernel
theorem ddM_timesOf_70 : decode cM_timesOf 70 = .ok (.iinc 4 1, 3) := by decide +kernel
theorem ddM_timesOf_73 : decode cM_timesOf 73 = .ok (.goto (-60), 3) := by decide +kernel
theorem ddM_timesOf_76 : decode cM_timesOf 76 = .ok (.iconst 0, 1) := by decide +kernel
theorem ddM_timesOf_77 : decode cM_timesOf 77 = .ok (.istore 4, 2) := by decide +kernel
theorem ddM_timesOf_79 : decode cM_timesOf 79 = .ok (.iload 4, 2) := by decide +kernel
theorem ddM_timesOf_81 : decode cM_timesOf 81 = .ok (.aload_n 0, 1) := by decide +kernel
theorem ddM_timesOf_82 : decode cM_timesOf 82 = .ok (.getfield 19, 3) := by decide +kernel
theorem ddM_timesOf_85 : decode cM_timesOf 85 = .ok (.iconst 0, 1) := by decide +kernel
theorem ddM_timesOf_86 : decode cM_timesOf 86 = .ok (.iaload, 1) := by decide +kernel
theorem ddM_timesOf_87 : decode cM_timesOf 87 = .ok (.if_icmp .ge 60, 3) := by decide +kernel
theorem ddM_timesOf_90 : decode cM_timesOf 90 = .ok (.iconst 1, 1) := by decide +kernel
theorem ddM_timesOf_91 : decode cM_timesOf 91 = .ok (.istore 5, 2) := by decide +kernel
theorem ddM_timesOf_93 : decode cM_timesOf 93 = .ok (.iload 5, 2) := by decide +kernel
theorem ddM_timesOf_95 : decode cM_timesOf 95 = .ok (.aload_n 0, 1) := by decide +kernel
theorem ddM_timesOf_96 : decode cM_timesOf 96 = .ok (.getfield 31, 3) := by decide +kernel
theorem ddM_timesOf_99 : decode cM_timesOf 99 = .ok (.iload 4, 2) := by decide +kernel
theorem ddM_timesOf_101 : decode cM_timesOf 101 = .ok (.iload_n 1, 1) := by decide +kernel
theorem ddM_timesOf_102 : decode cM_timesOf 102 = .ok (.invokestatic 238, 3) := by decide +kernel
theorem ddM_timesOf_105 : decode cM_timesOf 105 = .ok (.iaload, 1) := by decide +kernel
theorem ddM_timesOf_106 : decode cM_timesOf 106 = .ok (.if_icmp .gt 35, 3) := by decide +kernel
theorem ddM_timesOf_109 : decode cM_timesOf 109 = .ok (.iload_n 3, 1) := by decide +kernel
theorem ddM_timesOf_110 : decode cM_timesOf 110 = .ok (.aload_n 0, 1) := by decide +kernel
theorem ddM_timesOf_111 : decode cM_timesOf 111 = .ok (.getfield 31, 3) := by decide +kernel
theorem ddM_timesOf_114 : decode cM_timesOf 114 = .ok (.iload 4, 2) := by decide +kernel
theorem ddM_timesOf_116 : decode cM_timesOf 116 = .ok (.iload_n 1, 1) := by decide +kernel
theorem ddM_timesOf_117 : decode cM_timesOf 117 = .ok (.invokestatic 238, 3) := by decide +kernel
theorem ddM_timesOf_120 : decode cM_timesOf 120 = .ok (.iload 5, 2) := by decide +kernel
theorem ddM_timesOf_122 : decode cM_timesOf 122 = .ok (.iadd, 1) := by decide +kernel
theorem ddM_timesOf_123 : decode cM_timesOf 123 = .ok (.iaload, 1) := by decide +kernel
theorem ddM_timesOf_124 : decode cM_timesOf 124 = .ok (.iload_n 2, 1) := by decide +kernel
theorem ddM_timesOf_125 : decode cM_timesOf 125 = .ok (.if_icmp .ne 7, 3) := by decide +kernel
theorem ddM_timesOf_128 : decode cM_timesOf 128 = .ok (.iconst 1, 1) := by decide +kernel
theorem ddM_timesOf_129 : decode cM_timesOf 129 = .ok (.goto 4, 3) := by decide +kernel
theorem ddM_timesOf_132 : decode cM_timesOf 132 = .ok (.iconst 0, 1) := by decide +kernel
theorem ddM_timesOf_133 : decode cM_timesOf 133 = .ok (.iadd, 1) := by decide +kernel
theorem ddM_timesOf_134 : decode cM_timesOf 134 = .ok (.istore_n 3, 1) := by decide +kernel
theorem ddM_timesOf_135 : decode cM_timesOf 135 = .ok (.iinc 5 1, 3) := by decide +kernel
theorem ddM_timesOf_138 : decode cM_timesOf 138 = .ok (.goto (-45), 3) := by decide +kernel
theorem ddM_timesOf_141 : decode cM_timesOf 141 = .ok (.iinc 4 1, 3) := by decide +kernel
theorem ddM_timesOf_144 : decode cM_timesOf 144 = .ok (.goto (-65), 3) := by decide +kernel
theorem ddM_timesOf_147 : decode cM_timesOf 147 = .ok (.iload_n 3, 1) := by decide +kernel
theorem ddM_timesOf_148 : decode cM_timesOf 148 = .ok (.ireturn, 1) := by decide +kernel
set_option maxHeartbeats 2000000 in
theorem zBM_timesOf_133 {G : GXM} {X : CxM} (hG : GokM G) (C : CoM G X cM_timesOf "HomeFreedModel") (N : mLM X = 6) {d : Nat} (hD : dpM X = d) (hd : 1 ≤ d) {v0 : Nat} {v1 : Int32} {v2 : Int32} {v4 : Int32} {K : Nat → Int32 → Int32 → Int32 → Int32 → Int32 → Mem → Option ((Int32 × Mem))} {q : (Int32 × Mem)} (hK : ∀ (v3 : Int32) (v5 : Int32) (M : Mem), K v0 v1 v2 v3 v4 v5 M = some q → ZM G X 93 [(0, .ref v0), (1, .int v1), (2, .int v2), (3, .int v3), (4, .int v4), (5, .int v5)] [] M 0 0) (hx0 : ∀ y : Int32 × Mem, q = y → ZM G X 141 [(0, .ref v0), (1, .int v1), (2, .int v2), (3, .int y.1), (4, .int v4)] [] y.2 0 0) {v5 : Int32} {w0 : Int32} {w1 : Int32} {M : Mem} (h : BM_timesOf_133 K v0 v1 v2 v4 v5 w0 w1 M = some q) : ZM G X 133 [(0, .ref v0), (1, .int v1), (2, .int v2), (4, .int v4), (5, .int v5)] [.int w1, .int w0] M 0 0 := by
  unfold BM_timesOf_133 at h
  refine zz_iadd C ddM_timesOf_133 ?_
  refine zz_istore_n (L1 := [(3, .int (w0 + w1)), (0, .ref v0), (1, .int v1), (2, .int v2), (4, .int v4), (5, .int v5)]) C ddM_timesOf_134 rfl N (by decide) rfl ?_
  refine zz_iinc (v := v5 + 1) (L1 := [(5, .int (v5 + 1)), (3, .int (w0 + w1)), (0, .ref v0), (1, .int v1), (2, .int v2), (4, .int v4)]) C 5 ddM_timesOf_135 rfl rfl N (by decide) rfl ?_
  refine zz_goto (tgt := 93) C ddM_timesOf_138 rfl ?_
  refine zz_loc (L1 := [(0, .ref v0), (1, .int v1), (2, .int v2), (3, .int (w0 + w1)), (4, .int v4), (5, .int (v5 + 1))]) [2, 3, 4, 1, 5, 0] rfl ?_
  exact hK _ _ _ h
set_option maxHeartbeats 2000000 in
theorem zBM_timesOf_93 {G : GXM} {X : CxM} (hG : GokM G) (C : CoM G X cM_timesOf "HomeFreedModel") (N : mLM X = 6) {d : Nat} (hD : dpM X = d) (hd : 1 ≤ d) {v0 : Nat} {v1 : Int32} {v2 : Int32} {v4 : Int32} {K : Nat → Int32 → Int32 → Int32 → Int32 → Int32 → Mem → Option ((Int32 × Mem))} {q : (Int32 × Mem)} (hK : ∀ (v3 : Int32) (v5 : Int32) (M : Mem), K v0 v1 v2 v3 v4 v5 M = some q → ZM G X 93 [(0, .ref v0), (1, .int v1), (2, .int v2), (3, .int v3), (4, .int v4), (5, .int v5)] [] M 0 0) (hx0 : ∀ y : Int32 × Mem, q = y → ZM G X 141 [(0, .ref v0), (1, .int v1), (2, .int v2), (3, .int y.1), (4, .int v4)] [] y.2 0 0) {v3 : Int32} {v5 : Int32} {M : Mem} (h : BM_timesOf_93 K v0 v1 v2 v3 v4 v5 M = some q) : ZM G X 93 [(0, .ref v0), (1, .int v1), (2, .int v2), (3, .int v3), (4, .int v4), (5, .int v5)] [] M 0 0 := by
  unfold BM_timesOf_93 at h
  refine zz_iload C 5 ddM_timesOf_93 rfl ?_
  refine zz_aload_n C 0 ddM_timesOf_95 rfl rfl ?_
  obtain ⟨h1, h⟩ := gdN h
  obtain ⟨h2, h⟩ := gdN h
  refine zz_getr C ddM_timesOf_96 fl_M_31 rfl h1 (of_decide_eq_true h2) ?_
  refine zz_iload C 4 ddM_timesOf_99 rfl ?_
  refine zz_iload_n C 1 ddM_timesOf_101 rfl rfl ?_
  obtain ⟨q3, hq3, h⟩ := bindN h
  refine zz_callS0 (As := [.int v4, .int v1]) C ddM_timesOf_102 wd_1425 my_M_boxAt mv_M_boxAt (xM_boxAt hG (d - 1) (by omega) hq3) (by omega) rfl rfl (Nat.le_of_ble_eq_true rfl) ?_
  obtain ⟨h4, h⟩ := gdN h
  refine zz_iaload C ddM_timesOf_105 h4 ?_
  refine zz_icmp_gt (tgt := 141) C ddM_timesOf_106 rfl (fun hc => ?_) (fun hc => ?_)
  · replace h := iteT h hc
    refine zz_loc (L1 := [(0, .ref v0), (1, .int v1), (2, .int v2), (3, .int v3), (4, .int v4)]) [0, 1, 2, 3, 4] rfl ?_
    exact hx0 _ (Option.some.inj h).symm
  · replace h := iteF h hc
    refine zz_iload_n C 3 ddM_timesOf_109 rfl rfl ?_
    refine zz_aload_n C 0 ddM_timesOf_110 rfl rfl ?_
    obtain ⟨h5, h⟩ := gdN h
    obtain ⟨h6, h⟩ := gdN h
    refine zz_getr C ddM_timesOf_111 fl_M_31 rfl h5 (of_decide_eq_true h6) ?_
    refine zz_iload C 4 ddM_timesOf_114 rfl ?_
    refine zz_iload_n C 1 ddM_timesOf_116 rfl rfl ?_
    obtain ⟨q7, hq7, h⟩ := bindN h
    refine zz_callS0 (As := [.int v4, .int v1]) C ddM_timesOf_117 wd_1425 my_M_boxAt mv_M_boxAt (xM_boxAt hG (d - 1) (by omega) hq7) (by omega) rfl rfl (Nat.le_of_ble_eq_true rfl) ?_
    refine zz_iload C 5 ddM_timesOf_120 rfl ?_
    refine zz_iadd C ddM_timesOf_122 ?_
    obtain ⟨h8, h⟩ := gdN h
    refine zz_iaload C ddM_timesOf_123 h8 ?_
    refine zz_iload_n C 2 ddM_timesOf_124 rfl rfl ?_
    refine zz_icmp_ne (tgt := 132) C ddM_timesOf_125 rfl (fun hc => ?_) (fun hc => ?_)
    · replace h := iteF h hc
      refine zz_iconst (v := 0) C ddM_timesOf_132 (by decide) ?_
      refine zz_loc (L1 := [(0, .ref v0), (1, .int v1), (2, .int v2), (4, .int v4), (5, .int v5)]) [0, 1, 2, 4, 5] rfl ?_
      exact zBM_timesOf_133 hG C N hD hd hK hx0 h
    · replace h := iteT h hc
      refine zz_iconst (v := 1) C ddM_timesOf_128 (by decide) ?_
      refine zz_goto (tgt := 133) C ddM_timesOf_129 rfl ?_
      refine zz_loc (L1 := [(0, .ref v0), (1, .int v1), (2, .int v2), (4, .int v4), (5, .int v5)]) [0, 1, 2, 4, 5] rfl ?_
      exact zBM_timesOf_133 hG C N hD hd hK hx0 h
set_option maxHeartbeats 2000000 in
theorem zLM_timesOf_93 {G : GXM} {X : CxM} (hG : GokM G) (C : CoM G X cM_timesOf "HomeFreedModel") (N : mLM X = 6) {d : Nat} (hD : dpM X = d) (hd : 1 ≤ d) {v0 : Nat} {v1 : Int32} {v2 : Int32} {v4 : Int32} {q : (Int32 × Mem)} : ∀ (f : Nat) (v3 : Int32) (v5 : Int32) (M : Mem), LM_timesOf_93 f v0 v1 v2 v3 v4 v5 M = some q → (hx0 : ∀ y : Int32 × Mem, q = y → ZM G X 141 [(0, .ref v0), (1, .int v1), (2, .int v2), (3, .int y.1), (4, .int v4)] [] y.2 0 0) → ZM G X 93 [(0, .ref v0), (1, .int v1), (2, .int v2), (3, .int v3), (4, .int v4), (5, .int v5)] [] M 0 0 := by
  intro f
  induction f with
  | zero => intro v3 v5 M h; cases h
  | succ f ih =>
    intro v3 v5 M h hx0
    exact zBM_timesOf_93 hG C N hD hd (K := LM_timesOf_93 f) (q := q) (fun v3 v5 M h => ih v3 v5 M h hx0) hx0 h
set_option maxHeartbeats 2000000 in
theorem zBM_timesOf_79 {G : GXM} {X : CxM} (hG : GokM G) (C : CoM G X cM_timesOf "HomeFreedModel") (N : mLM X = 6) {d : Nat} (hD : dpM X = d) (hd : 1 ≤ d) {v0 : Nat} {v1 : Int32} {v2 : Int32} {K : Nat → Int32 → Int32 → Int32 → Int32 → Mem → Option ((Int32 × Mem))} {q : (Int32 × Mem)} (hK : ∀ (v3 : Int32) (v4 : Int32) (M : Mem), K v0 v1 v2 v3 v4 M = some q → ZM G X 79 [(0, .ref v0), (1, .int v1), (2, .int v2), (3, .int v3), (4, .int v4)] [] M 0 0) (hr : ∀ r : Int32 × Mem, q =  r → EnM G X (some .int) (some (.int r.1)) r.2 0 0) {v3 : Int32} {v4 : Int32} {M : Mem} (h : BM_timesOf_79 K v0 v1 v2 v3 v4 M = some q) : ZM G X 79 [(0, .ref v0), (1, .int v1), (2, .int v2), (3, .int v3), (4, .int v4)] [] M 0 0 := by
  unfold BM_timesOf_79 at h
  refine zz_iload C 4 ddM_timesOf_79 rfl ?_
  refine zz_aload_n C 0 ddM_timesOf_81 rfl rfl ?_
  obtain ⟨h1, h⟩ := gdN h
  obtain ⟨h2, h⟩ := gdN h
  refine zz_getr C ddM_timesOf_82 fl_M_19 rfl h1 (of_decide_eq_true h2) ?_
  refine zz_iconst (v := 0) C ddM_timesOf_85 (by decide) ?_
  obtain ⟨h3, h⟩ := gdN h
  refine zz_iaload C ddM_timesOf_86 h3 ?_
  refine zz_icmp_ge (tgt := 147) C ddM_timesOf_87 rfl (fun hc => ?_) (fun hc => ?_)
  · replace h := iteT h hc
    refine zz_iload_n C 3 ddM_timesOf_147 rfl rfl ?_
    exact zz_iret C (hr _ (Option.some.inj h).symm) ddM_timesOf_148
  · replace h := iteF h hc
    refine zz_iconst (v := 1) C ddM_timesOf_90 (by decide) ?_
    refine zz_istore (L1 := [(5, .int 1), (0, .ref v0), (1, .int v1), (2, .int v2), (3, .int v3), (4, .int v4)]) C ddM_timesOf_91 N (by decide) rfl ?_
    refine zz_loc (L1 := [(0, .ref v0), (1, .int v1), (2, .int v2), (3, .int v3), (4, .int v4), (5, .int 1)]) [1, 2, 3, 4, 5, 0] rfl ?_
    obtain ⟨q4, hq4, h⟩ := bindN h
    refine zLM_timesOf_93 hG C N hD hd 1000000 _ _ _ hq4 ?_
    · intro y5 eq4; replace eq4 := eq4.symm; subst eq4
      refine zz_iinc (v := v4 + 1) (L1 := [(4, .int (v4 + 1)), (0, .ref v0), (1, .int v1), (2, .int v2), (3, .int y5.1)]) C 4 ddM_timesOf_141 rfl rfl N (by decide) rfl ?_
      refine zz_goto (tgt := 79) C ddM_timesOf_144 rfl ?_
      refine zz_loc (L1 := [(0, .ref v0), (1, .int v1), (2, .int v2), (3, .int y5.1), (4, .int (v4 + 1))]) [1, 2, 3, 4, 0] rfl ?_
      exact hK _ _ _ h
set_option maxHeartbeats 2000000 in
theorem zLM_timesOf_79 {G : GXM} {X : CxM} (hG : GokM G) (C : CoM G X cM_timesOf "HomeFreedModel") (N : mLM X = 6) {d : Nat} (hD : dpM X = d) (hd : 1 ≤ d) {v0 : Nat} {v1 : Int32} {v2 : Int32} {q : (Int32 × Mem)} : ∀ (f : Nat) (v3 : Int32) (v4 : Int32) (M : Mem), LM_timesOf_79 f v0 v1 v2 v3 v4 M = some q → (hr : ∀ r : Int32 × Mem, q =  r → EnM G X (some .int) (some (.int r.1)) r.2 0 0) → ZM G X 79 [(0, .ref v0), (1, .int v1), (2, .int v2), (3, .int v3), (4, .int v4)] [] M 0 0 := by
  intro f
  induction f with
  | zero => intro v3 v4 M h; cases h
  | succ f ih =>
    intro v3 v4 M h hr
    exact zBM_timesOf_79 hG C N hD hd (K := LM_timesOf_79 f) (q := q) (fun v3 v4 M h => ih v3 v4 M h hr) hr h
set_option maxHeartbeats 2000000 in
theorem zBM_timesOf_62 {G : GXM} {X : CxM} (hG : GokM G) (C : CoM G X cM_timesOf "HomeFreedModel") (N : mLM X = 6) {d : Nat} (hD : dpM X = d) (hd : 1 ≤ d) {v0 : Nat} {v1 : Int32} {v2 : Int32} {v4 : Int32} {K : Nat → Int32 → Int32 → Int32 → Int32 → Int32 → Mem → Option ((Int32 × Mem))} {q : (Int32 × Mem)} (hK : ∀ (v3 : Int32) (v5 : Int32) (M : Mem), K v0 v1 v2 v3 v4 v5 M = some q → ZM G X 22 [(0, .ref v0), (1, .int v1), (2, .int v2), (3, .int v3), (4, .int v4), (5, .int v5)] [] M 0 0) (hx0 : ∀ y : Int32 × Mem, q = y → ZM G X 70 [(0, .ref v0), (1, .int v1), (2, .int v2), (3, .int y.1), (4, .int v4)] [] y.2 0 0) {v5 : Int32} {w0 : Int32} {w1 : Int32} {M : Mem} (h : BM_timesOf_62 K v0 v1 v2 v4 v5 w0 w1 M = some q) : ZM G X 62 [(0, .ref v0), (1, .int v1), (2, .int v2), (4, .int v4), (5, .int v5)] [.int w1, .int w0] M 0 0 := by
  unfold BM_timesOf_62 at h
  refine zz_iadd C ddM_timesOf_62 ?_
  refine zz_istore_n (L1 := [(3, .int (w0 + w1)), (0, .ref v0), (1, .int v1), (2, .int v2), (4, .int v4), (5, .int v5)]) C ddM_timesOf_63 rfl N (by decide) rfl ?_
  refine zz_iinc (v := v5 + 1) (L1 := [(5, .int (v5 + 1)), (3, .int (w0 + w1)), (0, .ref v0), (1, .int v1), (2, .int v2), (4, .int v4)]) C 5 ddM_timesOf_64 rfl rfl N (by decide) rfl ?_
  refine zz_goto (tgt := 22) C ddM_timesOf_67 rfl ?_
  refine zz_loc (L1 := [(0, .ref v0), (1, .int v1), (2, .int v2), (3, .int (w0 + w1)), (4, .int v4), (5, .int (v5 + 1))]) [2, 3, 4, 1, 5, 0] rfl ?_
  exact hK _ _ _ h
set_option maxHeartbeats 2000000 in
theorem zBM_timesOf_22 {G : GXM} {X : CxM} (hG : GokM G) (C : CoM G X cM_timesOf "HomeFreedModel") (N : mLM X = 6) {d : Nat} (hD : dpM X = d) (hd : 1 ≤ d) {v0 : Nat} {v1 : Int32} {v2 : Int32} {v4 : Int32} {K : Nat → Int32 → Int32 → Int32 → Int32 → Int32 → Mem → Option ((Int32 × Mem))} {q : (Int32 × Mem)} (hK : ∀ (v3 : Int32) (v5 : Int32) (M : Mem), K v0 v1 v2 v3 v4 v5 M = some q → ZM G X 22 [(0, .ref v0), (1, .int v1), (2, .int v2), (3, .int v3), (4, .int v4), (5, .int v5)] [] M 0 0) (hx0 : ∀ y : Int32 × Mem, q = y → ZM G X 70 [(0, .ref v0), (1, .int v1), (2, .int v2), (3, .int y.1), (4, .int v4)] [] y.2 0 0) {v3 : Int32} {v5 : Int32} {M : Mem} (h : BM_timesOf_22 K v0 v1 v2 v3 v4 v5 M = some q) : ZM G X 22 [(0, .ref v0), (1, .int v1), (2, .int v2), (3, .int v3), (4, .int v4), (5, .int v5)] [] M 0 0 := by
  unfold BM_timesOf_22 at h
  refine zz_iload C 5 ddM_timesOf_22 rfl ?_
  refine zz_aload_n C 0 ddM_timesOf_24 rfl rfl ?_
  obtain ⟨h1, h⟩ := gdN h
  obtain ⟨h2, h⟩ := gdN h
  refine zz_getr C ddM_timesOf_25 fl_M_31 rfl h1 (of_decide_eq_true h2) ?_
  refine zz_iload_n C 1 ddM_timesOf_28 rfl rfl ?_
  refine zz_iload C 4 ddM_timesOf_29 rfl ?_
  obtain ⟨q3, hq3, h⟩ := bindN h
  refine zz_callS0 (As := [.int v1, .int v4]) C ddM_timesOf_31 wd_1398 my_M_listAt mv_M_listAt (xM_listAt hG (d - 1) (by omega) hq3) (by omega) rfl rfl (Nat.le_of_ble_eq_true rfl) ?_
  obtain ⟨h4, h⟩ := gdN h
  refine zz_iaload C ddM_timesOf_34 h4 ?_
  refine zz_icmp_gt (tgt := 70) C ddM_timesOf_35 rfl (fun hc => ?_) (fun hc => ?_)
  · replace h := iteT h hc
    refine zz_loc (L1 := [(0, .ref v0), (1, .int v1), (2, .int v2), (3, .int v3), (4, .int v4)]) [0, 1, 2, 3, 4] rfl ?_
    exact hx0 _ (Option.some.inj h).symm
  · replace h := iteF h hc
    refine zz_iload_n C 3 ddM_timesOf_38 rfl rfl ?_
    refine zz_aload_n C 0 ddM_timesOf_39 rfl rfl ?_
    obtain ⟨h5, h⟩ := gdN h
    obtain ⟨h6, h⟩ := gdN h
    refine zz_getr C ddM_timesOf_40 fl_M_31 rfl h5 (of_decide_eq_true h6) ?_
    refine zz_iload_n C 1 ddM_timesOf_43 rfl rfl ?_
    refine zz_iload C 4 ddM_timesOf_44 rfl ?_
    obtain ⟨q7, hq7, h⟩ := bindN h
    refine zz_callS0 (As := [.int v1, .int v4]) C ddM_timesOf_46 wd_1398 my_M_listAt mv_M_listAt (xM_listAt hG (d - 1) (by omega) hq7) (by omega) rfl rfl (Nat.le_of_ble_eq_true rfl) ?_
    refine zz_iload C 5 ddM_timesOf_49 rfl ?_
    refine zz_iadd C ddM_timesOf_51 ?_
    obtain ⟨h8, h⟩ := gdN h
    refine zz_iaload C ddM_timesOf_52 h8 ?_
    refine zz_iload_n C 2 ddM_timesOf_53 rfl rfl ?_
    refine zz_icmp_ne (tgt := 61) C ddM_timesOf_54 rfl (fun hc => ?_) (fun hc => ?_)
    · replace h := iteF h hc
      refine zz_iconst (v := 0) C ddM_timesOf_61 (by decide) ?_
      refine zz_loc (L1 := [(0, .ref v0), (1, .int v1), (2, .int v2), (4, .int v4), (5, .int v5)]) [0, 1, 2, 4, 5] rfl ?_
      exact zBM_timesOf_62 hG C N hD hd hK hx0 h
    · replace h := iteT h hc
      refine zz_iconst (v := 1) C ddM_timesOf_57 (by decide) ?_
      refine zz_goto (tgt := 62) C ddM_timesOf_58 rfl ?_
      refine zz_loc (L1 := [(0, .ref v0), (1, .int v1), (2, .int v2), (4, .int v4), (5, .int v5)]) [0, 1, 2, 4, 5] rfl ?_
      exact zBM_timesOf_62 hG C N hD hd hK hx0 h
set_option maxHeartbeats 2000000 in
theorem zLM_timesOf_22 {G : GXM} {X : CxM} (hG : GokM G) (C : CoM G X cM_timesOf "HomeFreedModel") (N : mLM X = 6) {d : Nat} (hD : dpM X = d) (hd : 1 ≤ d) {v0 : Nat} {v1 : Int32} {v2 : Int32} {v4 : Int32} {q : (Int32 × Mem)} : ∀ (f : Nat) (v3 : Int32) (v5 : Int32) (M : Mem), LM_timesOf_22 f v0 v1 v2 v3 v4 v5 M = some q → (hx0 : ∀ y : Int32 × Mem, q = y → ZM G X 70 [(0, .ref v0), (1, .int v1), (2, .int v2), (3, .int y.1), (4, .int v4)] [] y.2 0 0) → ZM G X 22 [(0, .ref v0), (1, .int v1), (2, .int v2), (3, .int v3), (4, .int v4), (5, .int v5)] [] M 0 0 := by
  intro f
  induction f with
  | zero => intro v3 v5 M h; cases h
  | succ f ih =>
    intro v3 v5 M h hx0
    exact zBM_timesOf_22 hG C N hD hd (K := LM_timesOf_22 f) (q := q) (fun v3 v5 M h => ih v3 v5 M h hx0) hx0 h
set_option maxHeartbeats 2000000 in
theorem zBM_timesOf_13 {G : GXM} {X : CxM} (hG : GokM G) (C : CoM G X cM_timesOf "HomeFreedModel") (N : mLM X = 6) {d : Nat} (hD : dpM X = d) (hd : 1 ≤ d) {v0 : Nat} {v1 : Int32} {v2 : Int32} {K : Nat → Int32 → Int32 → Int32 → Int32 → Mem → Option ((Int32 × Mem))} {q : (Int32 × Mem)} (hK : ∀ (v3 : Int32) (v4 : Int32) (M : Mem), K v0 v1 v2 v3 v4 M = some q → ZM G X 13 [(0, .ref v0), (1, .int v1), (2, .int v2), (3, .int v3), (4, .int v4)] [] M 0 0) (hx0 : ∀ y : Int32 × Mem, q = y → ZM G X 76 [(0, .ref v0), (1, .int v1), (2, .int v2), (3, .int y.1)] [] y.2 0 0) {v3 : Int32} {v4 : Int32} {M : Mem} (h : BM_timesOf_13 K v0 v1 v2 v3 v4 M = some q) : ZM G X 13 [(0, .ref v0), (1, .int v1), (2, .int v2), (3, .int v3), (4, .int v4)] [] M 0 0 := by
  unfold BM_timesOf_13 at h
  refine zz_iload C 4 ddM_timesOf_13 rfl ?_
  refine zz_iconst (v := 3) C ddM_timesOf_15 (by decide) ?_
  refine zz_icmp_ge (tgt := 76) C ddM_timesOf_16 rfl (fun hc => ?_) (fun hc => ?_)
  · replace h := iteT h hc
    refine zz_loc (L1 := [(0, .ref v0), (1, .int v1), (2, .int v2), (3, .int v3)]) [0, 1, 2, 3] rfl ?_
    exact hx0 _ (Option.some.inj h).symm
  · replace h := iteF h hc
    refine zz_iconst (v := 1) C ddM_timesOf_19 (by decide) ?_
    refine zz_istore (L1 := [(5, .int 1), (0, .ref v0), (1, .int v1), (2, .int v2), (3, .int v3), (4, .int v4)]) C ddM_timesOf_20 N (by decide) rfl ?_
    refine zz_loc (L1 := [(0, .ref v0), (1, .int v1), (2, .int v2), (3, .int v3), (4, .int v4), (5, .int 1)]) [1, 2, 3, 4, 5, 0] rfl ?_
    obtain ⟨q1, hq1, h⟩ := bindN h
    refine zLM_timesOf_22 hG C N hD hd 1000000 _ _ _ hq1 ?_
    · intro y2 eq1; replace eq1 := eq1.symm; subst eq1
      refine zz_iinc (v := v4 + 1) (L1 := [(4, .int (v4 + 1)), (0, .ref v0), (1, .int v1), (2, .int v2), (3, .int y2.1)]) C 4 ddM_timesOf_70 rfl rfl N (by decide) rfl ?_
      refine zz_goto (tgt := 13) C ddM_timesOf_73 rfl ?_
      refine zz_loc (L1 := [(0, .ref v0), (1, .int v1), (2, .int v2), (3, .int y2.1), (4, .int (v4 + 1))]) [1, 2, 3, 4, 0] rfl ?_
      exact hK _ _ _ h
set_option maxHeartbeats 2000000 in
theorem zLM_timesOf_13 {G : GXM} {X : CxM} (hG : GokM G) (C : CoM G X cM_timesOf "HomeFreedModel") (N : mLM X = 6) {d : Nat} (hD : dpM X = d) (hd : 1 ≤ d) {v0 : Nat} {v1 : Int32} {v2 : Int32} {q : (Int32 × Mem)} : ∀ (f : Nat) (v3 : Int32) (v4 : Int32) (M : Mem), LM_timesOf_13 f v0 v1 v2 v3 v4 M = some q → (hx0 : ∀ y : Int32 × Mem, q = y → ZM G X 76 [(0, .ref v0), (1, .int v1), (2, .int v2), (3, .int y.1)] [] y.2 0 0) → ZM G X 13 [(0, .ref v0), (1, .int v1), (2, .int v2), (3, .int v3), (4, .int v4)] [] M 0 0 := by
  intro f
  induction f with
  | zero => intro v3 v4 M h; cases h
  | succ f ih =>
    intro v3 v4 M h hx0
    exact zBM_timesOf_13 hG C N hD hd (K := LM_timesOf_13 f) (q := q) (fun v3 v4 M h => ih v3 v4 M h hx0) hx0 h
set_option maxHeartbeats 2000000 in
theorem xM_timesOf {G : GXM} {l : Launch} (hG : GokM G) (d : Nat) (hd : 1 ≤ d) {v0 : Nat} {v1 : Int32} {v2 : Int32} {M : Mem} {q : Int32 × Mem} (h : fM_timesOf v0 v1 v2 M = some q) : ExM G l d 0 0 yM_timesOf cM_timesOf 6 (some .int) [.ref v0, .int v1, .int v2] M (some (.int q.1)) q.2 := by
  refine ex_of hG (by decide +kernel) (Nat.le_of_ble_eq_true rfl) ?_
  intro X hl C E N hD hn
  show ZM G X 0 [(0, .ref v0), (1, .int v1), (2, .int v2)] [] M 0 0
  unfold fM_timesOf at h
  refine zz_aload_n C 0 ddM_timesOf_0 rfl rfl ?_
  refine zz_iload_n C 1 ddM_timesOf_1 rfl rfl ?_
  refine zz_bipush (v := 126) C ddM_timesOf_2 (by decide) ?_
  refine zz_iload_n C 2 ddM_timesOf_4 rfl rfl ?_
  refine zz_iadd C ddM_timesOf_5 ?_
  obtain ⟨h2, h⟩ := gdN h
  obtain ⟨q1, hq1, h⟩ := bindN h
  refine zz_callV0 (As := [.int v1, .int (126 + v2)]) C ddM_timesOf_6 wd_1378 my_M_of mv_M_of ⟨_, rfl, rfl⟩ (xM_of hG (d - 1) (by omega) hq1) (by omega) h2 rfl rfl (Nat.le_of_ble_eq_true rfl) ?_
  refine zz_istore_n (L1 := [(3, .int q1.1), (0, .ref v0), (1, .int v1), (2, .int v2)]) C ddM_timesOf_9 rfl N (by decide) rfl ?_
  refine zz_iconst (v := 0) C ddM_timesOf_10 (by decide) ?_
  refine zz_istore (L1 := [(4, .int 0), (3, .int q1.1), (0, .ref v0), (1, .int v1), (2, .int v2)]) C ddM_timesOf_11 N (by decide) rfl ?_
  refine zz_loc (L1 := [(0, .ref v0), (1, .int v1), (2, .int v2), (3, .int q1.1), (4, .int 0)]) [2, 3, 4, 1, 0] rfl ?_
  obtain ⟨q3, hq3, h⟩ := bindN h
  refine zLM_timesOf_13 hG C N hD hd 1000000 _ _ _ hq3 ?_
  · intro y4 eq3; replace eq3 := eq3.symm; subst eq3
    refine zz_iconst (v := 0) C ddM_timesOf_76 (by decide) ?_
    refine zz_istore (L1 := [(4, .int 0), (0, .ref v0), (1, .int v1), (2, .int v2), (3, .int y4.1)]) C ddM_timesOf_77 N (by decide) rfl ?_
    refine zz_loc (L1 := [(0, .ref v0), (1, .int v1), (2, .int v2), (3, .int y4.1), (4, .int 0)]) [1, 2, 3, 4, 0] rfl ?_
    obtain ⟨q5, hq5, h⟩ := bindN h
    refine zLM_timesOf_79 hG C N hD hd 1000000 _ _ _ hq5 ?_
    · intro r6 eq5; replace eq5 := eq5.symm; subst eq5
      obtain rfl := Option.some.inj h
      exact E
theorem ddM_lostMany_0 : decode cM_lostMany 0 = .ok (.iconst 0, 1) := by decide +kernel
theorem ddM_lostMany_1 : decode cM_lostMany 1 = .ok (.istore_n 1, 1) := by decide +kernel
theorem ddM_lostMany_2 : decode cM_lostMany 2 = .ok (.iconst 0, 1) := by decide +kernel
theorem ddM_lostMany_3 : decode cM_lostMany 3 = .ok (.istore_n 2, 1) := by decide +kernel
theorem ddM_lostMany_4 : decode cM_lostMany 4 = .ok (.iload_n 2, 1) := by decide +kernel
theorem ddM_lostMany_5 : decode cM_lostMany 5 = .ok (.aload_n 0, 1) := by decide +kernel
theorem ddM_lostMany_6 : decode cM_lostMany 6 = .ok (.getfield 19, 3) := by decide +kernel
theorem ddM_lostMany_9 : decode cM_lostMany 9 = .ok (.iconst 1, 1) := by decide +kernel
theorem ddM_lostMany_10 : decode cM_lostMany 10 = .ok (.iaload, 1) := by decide +kernel
theorem ddM_lostMany_11 : decode cM_lostMany 11 = .ok (.if_icmp .ge 44, 3) := by decide +kernel
theorem ddM_lostMany_14 : decode cM_lostMany 14 = .ok (.iconst 0, 1) := by decide +kernel
theorem ddM_lostMany_15 : decode cM_lostMany 15 = .ok (.istore_n 3, 1) := by decide +kernel
theorem ddM_lostMany_16 : decode cM_lostMany 16 = .ok (.iload_n 3, 1) := by decide +kernel
theorem ddM_lostMany_17 : decode cM_lostMany 17 = .ok (.aload_n 0, 1) := by decide +kernel
theorem ddM_lostMany_18 : decode cM_lostMany 18 = .ok (.iload_n 2, 1) := by decide +kernel
theorem ddM_lostMany_19 : decode cM_lostMany 19 = .ok (.invokevirtual 176, 3) := by decide +kernel
theorem ddM_lostMany_22 : decode cM_lostMany 22 = .ok (.if_icmp .ge 27, 3) := by decide +kernel
theorem ddM_lostMany_25 : decode cM_lostMany 25 = .ok (.iload_n 1, 1) := by decide +kernel
theorem ddM_lostMany_26 : decode cM_lostMany 26 = .ok (.aload_n 0, 1) := by decide +kernel
theorem ddM_lostMany_27 : decode cM_lostMany 27 = .ok (.iload_n 2, 1) := by decide +kernel
theorem ddM_lostMany_28 : decode cM_lostMany 28 = .ok (.iload_n 3, 1) := by decide +kernel
theorem ddM_lostMany_29 : decode cM_lostMany 29 = .ok (.invokevirtual 396, 3) := by decide +kernel
theorem ddM_lostMany_32 : decode cM_lostMany 32 = .ok (.iconst 1, 1) := by decide +kernel
theorem ddM_lostMany_33 : decode cM_lostMany 33 = .ok (.if_icmp .eq 7, 3) := by decide +kernel
theorem ddM_lostMany_36 : decode cM_lostMany 36 = .ok (.iconst 1, 1) := by decide +kernel
theorem ddM_lostMany_37 : decode cM_lostMany 37 = .ok (.goto 4, 3) := by decide +kernel
theorem ddM_lostMany_40 : decode cM_lostMany 40 = .ok (.iconst 0, 1) := by decide +kernel
theorem ddM_lostMany_41 : decode cM_lostMany 41 = .ok (.iadd, 1) := by decide +kernel
theorem ddM_lostMany_42 : decode cM_lostMany 42 = .ok (.istore_n 1, 1) := by decide +kernel
theorem ddM_lostMany_43 : decode cM_lostMany 43 = .ok (.iinc 3 1, 3) := by decide +kernel
theorem ddM_lostMany_46 : decode cM_lostMany 46 = .ok (.goto (-30), 3) := by decide +kernel
theorem ddM_lostMany_49 : decode cM_lostMany 49 = .ok (.iinc 2 1, 3) := by decide +kernel
theorem ddM_lostMany_52 : decode cM_lostMany 52 = .ok (.goto (-48), 3) := by decide +kernel
theorem ddM_lostMany_55 : decode cM_lostMany 55 = .ok (.iload_n 1, 1) := by decide +kernel
theorem ddM_lostMany_56 : decode cM_lostMany 56 = .ok (.ireturn, 1) := by decide +kernel
set_option maxHeartbeats 2000000 in
theorem zBM_lostMany_41 {G : GXM} {X : CxM} (hG : GokM G) (C : CoM G X cM_lostMany "HomeFreedModel") (N : mLM X = 4) {d : Nat} (hD : dpM X = d) (hd : 2 ≤ d) {v0 : Nat} {v2 : Int32} {K : Nat → Int32 → Int32 → Int32 → Mem → Option ((Int32 × Mem))} {q : (Int32 × Mem)} (hK : ∀ (v1 : Int32) (v3 : Int32) (M : Mem), K v0 v1 v2 v3 M = some q → ZM G X 16 [(0, .ref v0), (1, .int v1), (2, .int v2), (3, .int v3)] [] M 0 0) (hx0 : ∀ y : Int32 × Mem, q = y → ZM G X 49 [(0, .ref v0), (1, .int y.1), (2, .int v2)] [] y.2 0 0) {v3 : Int32} {w0 : Int32} {w1 : Int32} {M : Mem} (h : BM_lostMany_41 K v0 v2 v3 w0 w1 M = some q) : ZM G X 41 [(0, .ref v0), (2, .int v2), (3, .int v3)] [.int w1, .int w0] M 0 0 := by
  unfold BM_lostMany_41 at h
  refine zz_iadd C ddM_lostMany_41 ?_
  refine zz_istore_n (L1 := [(1, .int (w0 + w1)), (0, .ref v0), (2, .int v2), (3, .int v3)]) C ddM_lostMany_42 rfl N (by decide) rfl ?_
  refine zz_iinc (v := v3 + 1) (L1 := [(3, .int (v3 + 1)), (1, .int (w0 + w1)), (0, .ref v0), (2, .int v2)]) C 3 ddM_lostMany_43 rfl rfl N (by decide) rfl ?_
  refine zz_goto (tgt := 16) C ddM_lostMany_46 rfl ?_
  refine zz_loc (L1 := [(0, .ref v0), (1, .int (w0 + w1)), (2, .int v2), (3, .int (v3 + 1))]) [2, 1, 3, 0] rfl ?_
  exact hK _ _ _ h
set_option maxHeartbeats 2000000 in
theorem zBM_lostMany_16 {G : GXM} {X : CxM} (hG : GokM G) (C : CoM G X cM_lostMany "HomeFreedModel") (N : mLM X = 4) {d : Nat} (hD : dpM X = d) (hd : 2 ≤ d) {v0 : Nat} {v2 : Int32} {K : Nat → Int32 → Int32 → Int32 → Mem → Option ((Int32 × Mem))} {q : (Int32 × Mem)} (hK : ∀ (v1 : Int32) (v3 : Int32) (M : Mem), K v0 v1 v2 v3 M = some q → ZM G X 16 [(0, .ref v0), (1, .int v1), (2, .int v2), (3, .int v3)] [] M 0 0) (hx0 : ∀ y : Int32 × Mem, q = y → ZM G X 49 [(0, .ref v0), (1, .int y.1), (2, .int v2)] [] y.2 0 0) {v1 : Int32} {v3 : Int32} {M : Mem} (h : BM_lostMany_16 K v0 v1 v2 v3 M = some q) : ZM G X 16 [(0, .ref v0), (1, .int v1), (2, .int v2), (3, .int v3)] [] M 0 0 := by
  unfold BM_lostMany_16 at h
  refine zz_iload_n C 3 ddM_lostMany_16 rfl rfl ?_
  refine zz_aload_n C 0 ddM_lostMany_17 rfl rfl ?_
  refine zz_iload_n C 2 ddM_lostMany_18 rfl rfl ?_
  obtain ⟨h2, h⟩ := gdN h
  obtain ⟨q1, hq1, h⟩ := bindN h
  refine zz_callV0 (As := [.int v2]) C ddM_lostMany_19 wd_1390 my_M_blocksOf mv_M_blocksOf ⟨_, rfl, rfl⟩ (xM_blocksOf hG (d - 1) (by omega) hq1) (by omega) h2 rfl rfl (Nat.le_of_ble_eq_true rfl) ?_
  refine zz_icmp_ge (tgt := 49) C ddM_lostMany_22 rfl (fun hc => ?_) (fun hc => ?_)
  · replace h := iteT h hc
    refine zz_loc (L1 := [(0, .ref v0), (1, .int v1), (2, .int v2)]) [0, 1, 2] rfl ?_
    exact hx0 _ (Option.some.inj h).symm
  · replace h := iteF h hc
    refine zz_iload_n C 1 ddM_lostMany_25 rfl rfl ?_
    refine zz_aload_n C 0 ddM_lostMany_26 rfl rfl ?_
    refine zz_iload_n C 2 ddM_lostMany_27 rfl rfl ?_
    refine zz_iload_n C 3 ddM_lostMany_28 rfl rfl ?_
    obtain ⟨h4, h⟩ := gdN h
    obtain ⟨q3, hq3, h⟩ := bindN h
    refine zz_callV0 (As := [.int v2, .int v3]) C ddM_lostMany_29 wd_1768 my_M_timesOf mv_M_timesOf ⟨_, rfl, rfl⟩ (xM_timesOf hG (d - 1) (by omega) hq3) (by omega) h4 rfl rfl (Nat.le_of_ble_eq_true rfl) ?_
    refine zz_iconst (v := 1) C ddM_lostMany_32 (by decide) ?_
    refine zz_icmp_eq (tgt := 40) C ddM_lostMany_33 rfl (fun hc => ?_) (fun hc => ?_)
    · replace h := iteT h hc
      refine zz_iconst (v := 0) C ddM_lostMany_40 (by decide) ?_
      refine zz_loc (L1 := [(0, .ref v0), (2, .int v2), (3, .int v3)]) [0, 2, 3] rfl ?_
      exact zBM_lostMany_41 hG C N hD hd hK hx0 h
    · replace h := iteF h hc
      refine zz_iconst (v := 1) C ddM_lostMany_36 (by decide) ?_
      refine zz_goto (tgt := 41) C ddM_lostMany_37 rfl ?_
      refine zz_loc (L1 := [(0, .ref v0), (2, .int v2), (3, .int v3)]) [0, 2, 3] rfl ?_
      exact zBM_lostMany_41 hG C N hD hd hK hx0 h
set_option maxHeartbeats 2000000 in
theorem zLM_lostMany_16 {G : GXM} {X : CxM} (hG : GokM G) (C : CoM G X cM_lostMany "HomeFreedModel") (N : mLM X = 4) {d : Nat} (hD : dpM X = d) (hd : 2 ≤ d) {v0 : Nat} {v2 : Int32} {q : (Int32 × Mem)} : ∀ (f : Nat) (v1 : Int32) (v3 : Int32) (M : Mem), LM_lostMany_16 f v0 v1 v2 v3 M = some q → (hx0 : ∀ y : Int32 × Mem, q = y → ZM G X 49 [(0, .ref v0), (1, .int y.1), (2, .int v2)] [] y.2 0 0) → ZM G X 16 [(0, .ref v0), (1, .int v1), (2, .int v2), (3, .int v3)] [] M 0 0 := by
  intro f
  induction f with
  | zero => intro v1 v3 M h; cases h
  | succ f ih =>
    intro v1 v3 M h hx0
    exact zBM_lostMany_16 hG C N hD hd (K := LM_lostMany_16 f) (q := q) (fun v1 v3 M h => ih v1 v3 M h hx0) hx0 h
set_option maxHeartbeats 2000000 in
theorem zBM_lostMany_4 {G : GXM} {X : CxM} (hG : GokM G) (C : CoM G X cM_lostMany "HomeFreedModel") (N : mLM X = 4) {d : Nat} (hD : dpM X = d) (hd : 2 ≤ d) {v0 : Nat} {K : Nat → Int32 → Int32 → Mem → Option ((Int32 × Mem))} {q : (Int32 × Mem)} (hK : ∀ (v1 : Int32) (v2 : Int32) (M : Mem), K v0 v1 v2 M = some q → ZM G X 4 [(0, .ref v0), (1, .int v1), (2, .int v2)] [] M 0 0) (hr : ∀ r : Int32 × Mem, q =  r → EnM G X (some .int) (some (.int r.1)) r.2 0 0) {v1 : Int32} {v2 : Int32} {M : Mem} (h : BM_lostMany_4 K v0 v1 v2 M = some q) : ZM G X 4 [(0, .ref v0), (1, .int v1), (2, .int v2)] [] M 0 0 := by
  unfold BM_lostMany_4 at h
  refine zz_iload_n C 2 ddM_lostMany_4 rfl rfl ?_
  refine zz_aload_n C 0 ddM_lostMany_5 rfl rfl ?_
  obtain ⟨h1, h⟩ := gdN h
  obtain ⟨h2, h⟩ := gdN h
  refine zz_getr C ddM_lostMany_6 fl_M_19 rfl h1 (of_decide_eq_true h2) ?_
  refine zz_iconst (v := 1) C ddM_lostMany_9 (by decide) ?_
  obtain ⟨h3, h⟩ := gdN h
  refine zz_iaload C ddM_lostMany_10 h3 ?_
  refine zz_icmp_ge (tgt := 55) C ddM_lostMany_11 rfl (fun hc => ?_) (fun hc => ?_)
  · replace h := iteT h hc
    refine zz_iload_n C 1 ddM_lostMany_55 rfl rfl ?_
    exact zz_iret C (hr _ (Option.some.inj h).symm) ddM_lostMany_56
  · replace h := iteF h hc
    refine zz_iconst (v := 0) C ddM_lostMany_14 (by decide) ?_
    refine zz_istore_n (L1 := [(3, .int 0), (0, .ref v0), (1, .int v1), (2, .int v2)]) C ddM_lostMany_15 rfl N (by decide) rfl ?_
    refine zz_loc (L1 := [(0, .ref v0), (1, .int v1), (2, .int v2), (3, .int 0)]) [1, 2, 3, 0] rfl ?_
    obtain ⟨q4, hq4, h⟩ := bindN h
    refine zLM_lostMany_16 hG C N hD hd 1000000 _ _ _ hq4 ?_
    · intro y5 eq4; replace eq4 := eq4.symm; subst eq4
      refine zz_iinc (v := v2 + 1) (L1 := [(2, .int (v2 + 1)), (0, .ref v0), (1, .int y5.1)]) C 2 ddM_lostMany_49 rfl rfl N (by decide) rfl ?_
      refine zz_goto (tgt := 4) C ddM_lostMany_52 rfl ?_
      refine zz_loc (L1 := [(0, .ref v0), (1, .int y5.1), (2, .int (v2 + 1))]) [1, 2, 0] rfl ?_
      exact hK _ _ _ h
set_option maxHeartbeats 2000000 in
theorem zLM_lostMany_4 {G : GXM} {X : CxM} (hG : GokM G) (C : CoM G X cM_lostMany "HomeFreedModel") (N : mLM X = 4) {d : Nat} (hD : dpM X = d) (hd : 2 ≤ d) {v0 : Nat} {q : (Int32 × Mem)} : ∀ (f : Nat) (v1 : Int32) (v2 : Int32) (M : Mem), LM_lostMany_4 f v0 v1 v2 M = some q → (hr : ∀ r : Int32 × Mem, q =  r → EnM G X (some .int) (some (.int r.1)) r.2 0 0) → ZM G X 4 [(0, .ref v0), (1, .int v1), (2, .int v2)] [] M 0 0 := by
  intro f
  induction f with
  | zero => intro v1 v2 M h; cases h
  | succ f ih =>
    intro v1 v2 M h hr
    exact zBM_lostMany_4 hG C N hD hd (K := LM_lostMany_4 f) (q := q) (fun v1 v2 M h => ih v1 v2 M h hr) hr h
set_option maxHeartbeats 2000000 in
theorem xM_lostMany {G : GXM} {l : Launch} (hG : GokM G) (d : Nat) (hd : 2 ≤ d) {v0 : Nat} {M : Mem} {q : Int32 × Mem} (h : fM_lostMany v0 M = some q) : ExM G l d 0 0 yM_lostMany cM_lostMany 4 (some .int) [.ref v0] M (some (.int q.1)) q.2 := by
  refine ex_of hG (by decide +kernel) (Nat.le_of_ble_eq_true rfl) ?_
  intro X hl C E N hD hn
  show ZM G X 0 [(0, .ref v0)] [] M 0 0
  unfold fM_lostMany at h
  refine zz_iconst (v := 0) C ddM_lostMany_0 (by decide) ?_
  refine zz_istore_n (L1 := [(1, .int 0), (0, .ref v0)]) C ddM_lostMany_1 rfl N (by decide) rfl ?_
  refine zz_iconst (v := 0) C ddM_lostMany_2 (by decide) ?_
  refine zz_istore_n (L1 := [(2, .int 0), (1, .int 0), (0, .ref v0)]) C ddM_lostMany_3 rfl N (by decide) rfl ?_
  refine zz_loc (L1 := [(0, .ref v0), (1, .int 0), (2, .int 0)]) [2, 1, 0] rfl ?_
  obtain ⟨q1, hq1, h⟩ := bindN h
  refine zLM_lostMany_4 hG C N hD hd 1000000 _ _ _ hq1 ?_
  · intro r2 eq1; replace eq1 := eq1.symm; subst eq1
    obtain rfl := Option.some.inj h
    exact E
theorem ddM_most_0 : decode cM_most 0 = .ok (.aload_n 0, 1) := by decide +kernel
theorem ddM_most_1 : decode cM_most 1 = .ok (.invokevirtual 160, 3) := by decide +kernel
theorem ddM_most_4 : decode cM_most 4 = .ok (.ifCond .eq 13, 3) := by decide +kernel
theorem ddM_most_7 : decode cM_most 7 = .ok (.iload_n 1, 1) := by decide +kernel
theorem ddM_most_8 : decode cM_most 8 = .ok (.iconst 0, 1) := by decide +kernel
theorem ddM_most_9 : decode cM_most 9 = .ok (.bipush 11, 2) := by decide +kernel
theorem ddM_most_11 : decode cM_most 11 = .ok (.invokestatic 75, 3) := by decide +kernel
theorem ddM_most_14 : decode cM_most 14 = .ok (.ifCond .ne 7, 3) := by decide +kernel
theorem ddM_most_17 : decode cM_most 17 = .ok (.ldc_w 347, 3) := by decide +kernel
theorem ddM_most_20 : decode cM_most 20 = .ok (.ireturn, 1) := by decide +kernel
theorem ddM_most_21 : decode cM_most 21 = .ok (.iload_n 1, 1) := by decide +kernel
theorem ddM_most_22 : decode cM_most 22 = .ok (.tableswitch 117 0 10 #[58, 63, 68, 73, 79, 85, 91, 97, 102, 107, 112], 58) := by decide +kernel
theorem ddM_most_80 : decode cM_most 80 = .ok (.aload_n 0, 1) := by decide +kernel
theorem ddM_most_81 : decode cM_most 81 = .ok (.invokevirtual 399, 3) := by decide +kernel
theorem ddM_most_84 : decode cM_most 84 = .ok (.ireturn, 1) := by decide +kernel
theorem ddM_most_85 : decode cM_most 85 = .ok (.aload_n 0, 1) := by decide +kernel
theorem ddM_most_86 : decode cM_most 86 = .ok (.invokevirtual 402, 3) := by decide +kernel
theorem ddM_most_89 : decode cM_most 89 = .ok (.ireturn, 1) := by decide +kernel
theorem ddM_most_90 : decode cM_most 90 = .ok (.aload_n 0, 1) := by decide +kernel
theorem ddM_most_91 : decode cM_most 91 = .ok (.invokevirtual 405, 3) := by decide +kernel
theorem ddM_most_94 : decode cM_most 94 = .ok (.ireturn, 1) := by decide +kernel
theorem ddM_most_95 : decode cM_most 95 = .ok (.aload_n 0, 1) := by decide +kernel
theorem ddM_most_96 : decode cM_most 96 = .ok (.iconst 3, 1) := by decide +kernel
theorem ddM_most_97 : decode cM_most 97 = .ok (.invokevirtual 408, 3) := by decide +kernel
theorem ddM_most_100 : decode cM_most 100 = .ok (.ireturn, 1) := by decide +kernel
theorem ddM_most_101 : decode cM_most 101 = .ok (.aload_n 0, 1) := by decide +kernel
theorem ddM_most_102 : decode cM_most 102 = .ok (.iconst 0, 1) := by decide +kernel
theorem ddM_most_103 : decode cM_most 103 = .ok (.invokevirtual 408, 3) := by decide +kernel
theorem ddM_most_106 : decode cM_most 106 = .ok (.ireturn, 1) := by decide +kernel
theorem ddM_most_107 : decode cM_most 107 = .ok (.aload_n 0, 1) := by decide +kernel
theorem ddM_most_108 : decode cM_most 108 = .ok (.iconst 2, 1) := by decide +kernel
theorem ddM_most_109 : decode cM_most 109 = .ok (.invokevirtual 408, 3) := by decide +kernel
theorem ddM_most_112 : decode cM_most 112 = .ok (.ireturn, 1) := by decide +kernel
theorem ddM_most_113 : decode cM_most 113 = .ok (.aload_n 0, 1) := by decide +kernel
theorem ddM_most_114 : decode cM_most 114 = .ok (.iconst 1, 1) := by decide +kernel
theorem ddM_most_115 : decode cM_most 115 = .ok (.invokevirtual 408, 3) := by decide +kernel
theorem ddM_most_118 : decode cM_most 118 = .ok (.ireturn, 1) := by decide +kernel
theorem ddM_most_119 : decode cM_most 119 = .ok (.aload_n 0, 1) := by decide +kernel
theorem ddM_most_120 : decode cM_most 120 = .ok (.invokevirtual 338, 3) := by decide +kernel
theorem ddM_most_123 : decode cM_most 123 = .ok (.ireturn, 1) := by decide +kernel
theorem ddM_most_124 : decode cM_most 124 = .ok (.aload_n 0, 1) := by decide +kernel
theorem ddM_most_125 : decode cM_most 125 = .ok (.invokevirtual 411, 3) := by decide +kernel
theorem ddM_most_128 : decode cM_most 128 = .ok (.ireturn, 1) := by decide +kernel
theorem ddM_most_129 : decode cM_most 129 = .ok (.aload_n 0, 1) := by decide +kernel
theorem ddM_most_130 : decode cM_most 130 = .ok (.invokevirtual 414, 3) := by decide +kernel
theorem ddM_most_133 : decode cM_most 133 = .ok (.ireturn, 1) := by decide +kernel
theorem ddM_most_134 : decode cM_most 134 = .ok (.aload_n 0, 1) := by decide +kernel
theorem ddM_most_135 : decode cM_most 135 = .ok (.invokevirtual 417, 3) := by decide +kernel
theorem ddM_most_138 : decode cM_most 138 = .ok (.ireturn, 1) := by decide +kernel
theorem ddM_most_139 : decode cM_most 139 = .ok (.aload_n 0, 1) := by decide +kernel
theorem ddM_most_140 : decode cM_most 140 = .ok (.invokevirtual 420, 3) := by decide +kernel
theorem ddM_most_143 : decode cM_most 143 = .ok (.ireturn, 1) := by decide +kernel
set_option maxHeartbeats 2000000 in
theorem zBM_most_17 {G : GXM} {X : CxM} (hG : GokM G) (C : CoM G X cM_most "HomeFreedModel") (N : mLM X = 2) {d : Nat} (hD : dpM X = d) (hd : 5 ≤ d)  {q : Int32 × Mem} (E : EnM G X (some .int) (some (.int q.1)) q.2 0 0) {M : Mem} (h : BM_most_17 M = some q) : ZM G X 17 [] [] M 0 0 := by
  unfold BM_most_17 at h
  refine zz_ldcw C ddM_most_17 wd_1657 rfl ?_
  obtain rfl := Option.some.inj h
  exact zz_iret C E ddM_most_20
set_option maxHeartbeats 2000000 in
theorem xM_most {G : GXM} {l : Launch} (hG : GokM G) (d : Nat) (hd : 5 ≤ d) {v0 : Nat} {v1 : Int32} {M : Mem} {q : Int32 × Mem} (h : fM_most v0 v1 M = some q) : ExM G l d 0 0 yM_most cM_most 2 (some .int) [.ref v0, .int v1] M (some (.int q.1)) q.2 := by
  refine ex_of hG (by decide +kernel) (Nat.le_of_ble_eq_true rfl) ?_
  intro X hl C E N hD hn
  show ZM G X 0 [(0, .ref v0), (1, .int v1)] [] M 0 0
  unfold fM_most at h
  refine zz_aload_n C 0 ddM_most_0 rfl rfl ?_
  obtain ⟨h2, h⟩ := gdN h
  obtain ⟨q1, hq1, h⟩ := bindN h
  refine zz_callV0 (As := []) C ddM_most_1 wd_1362 my_M_isArena mv_M_isArena ⟨_, rfl, rfl⟩ (xM_isArena hG (d - 1) (by omega) hq1) (by omega) h2 rfl rfl (Nat.le_of_ble_eq_true rfl) ?_
  refine zz_if_eq (tgt := 17) C ddM_most_4 rfl (fun hc => ?_) (fun hc => ?_)
  · replace h := iteT h hc
    refine zz_loc (L1 := []) [] rfl ?_
    exact zBM_most_17 hG C N hD hd E h
  · replace h := iteF h hc
    refine zz_iload_n C 1 ddM_most_7 rfl rfl ?_
    refine zz_iconst (v := 0) C ddM_most_8 (by decide) ?_
    refine zz_bipush (v := 11) C ddM_most_9 (by decide) ?_
    obtain ⟨q3, hq3, h⟩ := bindN h
    refine zz_callS0 (As := [.int v1, .int 0, .int 11]) C ddM_most_11 wd_1289 my_M_in mv_M_in (xM_in hG (d - 1) (by omega) hq3) (by omega) rfl rfl (Nat.le_of_ble_eq_true rfl) ?_
    refine zz_if_ne (tgt := 21) C ddM_most_14 rfl (fun hc => ?_) (fun hc => ?_)
    · replace h := iteF h hc
      refine zz_iload_n C 1 ddM_most_21 rfl rfl ?_
      by_cases hs22_0 : v1 = 0
      · replace h := iteT h hs22_0
        rw [hs22_0]
        refine zz_tableIn (tgt := 80) C ddM_most_22 (by decide) (by decide) rfl rfl ?_
        refine zz_aload_n C 0 ddM_most_80 rfl rfl ?_
        obtain ⟨h5, h⟩ := gdN h
        obtain ⟨q4, hq4, h⟩ := bindN h
        refine zz_callV0 (As := []) C ddM_most_81 wd_1736 my_M_fullest mv_M_fullest ⟨_, rfl, rfl⟩ (xM_fullest hG (d - 1) (by omega) hq4) (by omega) h5 rfl rfl (Nat.le_of_ble_eq_true rfl) ?_
        obtain rfl := Option.some.inj h
        exact zz_iret C E ddM_most_84
      replace h := iteF h hs22_0
      by_cases hs22_1 : v1 = 1
      · replace h := iteT h hs22_1
        rw [hs22_1]
        refine zz_tableIn (tgt := 85) C ddM_most_22 (by decide) (by decide) rfl rfl ?_
        refine zz_aload_n C 0 ddM_most_85 rfl rfl ?_
        obtain ⟨h7, h⟩ := gdN h
        obtain ⟨q6, hq6, h⟩ := bindN h
        refine zz_callV0 (As := []) C ddM_most_86 wd_1740 my_M_richest mv_M_richest ⟨_, rfl, rfl⟩ (xM_richest hG (d - 1) (by omega) hq6) (by omega) h7 rfl rfl (Nat.le_of_ble_eq_true rfl) ?_
        obtain rfl := Option.some.inj h
        exact zz_iret C E ddM_most_89
      replace h := iteF h hs22_1
      by_cases hs22_2 : v1 = 2
      · replace h := iteT h hs22_2
        rw [hs22_2]
        refine zz_tableIn (tgt := 90) C ddM_most_22 (by decide) (by decide) rfl rfl ?_
        refine zz_aload_n C 0 ddM_most_90 rfl rfl ?_
        obtain ⟨h9, h⟩ := gdN h
        obtain ⟨q8, hq8, h⟩ := bindN h
        refine zz_callV0 (As := []) C ddM_most_91 wd_1744 my_M_living mv_M_living ⟨_, rfl, rfl⟩ (xM_living hG (d - 1) (by omega) hq8) (by omega) h9 rfl rfl (Nat.le_of_ble_eq_true rfl) ?_
        obtain rfl := Option.some.inj h
        exact zz_iret C E ddM_most_94
      replace h := iteF h hs22_2
      by_cases hs22_3 : v1 = 3
      · replace h := iteT h hs22_3
        rw [hs22_3]
        refine zz_tableIn (tgt := 95) C ddM_most_22 (by decide) (by decide) rfl rfl ?_
        refine zz_aload_n C 0 ddM_most_95 rfl rfl ?_
        refine zz_iconst (v := 3) C ddM_most_96 (by decide) ?_
        obtain ⟨h11, h⟩ := gdN h
        obtain ⟨q10, hq10, h⟩ := bindN h
        refine zz_callV0 (As := [.int 3]) C ddM_most_97 wd_1748 my_M_pagesThat mv_M_pagesThat ⟨_, rfl, rfl⟩ (xM_pagesThat hG (d - 1) (by omega) hq10) (by omega) h11 rfl rfl (Nat.le_of_ble_eq_true rfl) ?_
        obtain rfl := Option.some.inj h
        exact zz_iret C E ddM_most_100
      replace h := iteF h hs22_3
      by_cases hs22_4 : v1 = 4
      · replace h := iteT h hs22_4
        rw [hs22_4]
        refine zz_tableIn (tgt := 101) C ddM_most_22 (by decide) (by decide) rfl rfl ?_
        refine zz_aload_n C 0 ddM_most_101 rfl rfl ?_
        refine zz_iconst (v := 0) C ddM_most_102 (by decide) ?_
        obtain ⟨h13, h⟩ := gdN h
        obtain ⟨q12, hq12, h⟩ := bindN h
        refine zz_callV0 (As := [.int 0]) C ddM_most_103 wd_1748 my_M_pagesThat mv_M_pagesThat ⟨_, rfl, rfl⟩ (xM_pagesThat hG (d - 1) (by omega) hq12) (by omega) h13 rfl rfl (Nat.le_of_ble_eq_true rfl) ?_
        obtain rfl := Option.some.inj h
        exact zz_iret C E ddM_most_106
      replace h := iteF h hs22_4
      by_cases hs22_5 : v1 = 5
      · replace h := iteT h hs22_5
        rw [hs22_5]
        refine zz_tableIn (tgt := 107) C ddM_most_22 (by decide) (by decide) rfl rfl ?_
        refine zz_aload_n C 0 ddM_most_107 rfl rfl ?_
        refine zz_iconst (v := 2) C ddM_most_108 (by decide) ?_
        obtain ⟨h15, h⟩ := gdN h
        obtain ⟨q14, hq14, h⟩ := bindN h
        refine zz_callV0 (As := [.int 2]) C ddM_most_109 wd_1748 my_M_pagesThat mv_M_pagesThat ⟨_, rfl, rfl⟩ (xM_pagesThat hG (d - 1) (by omega) hq14) (by omega) h15 rfl rfl (Nat.le_of_ble_eq_true rfl) ?_
        obtain rfl := Option.some.inj h
        exact zz_iret C E ddM_most_112
      replace h := iteF h hs22_5
      by_cases hs22_6 : v1 = 6
      · replace h := iteT h hs22_6
        rw [hs22_6]
        refine zz_tableIn (tgt := 113) C ddM_most_22 (by decide) (by decide) rfl rfl ?_
        refine zz_aload_n C 0 ddM_most_113 rfl rfl ?_
        refine zz_iconst (v := 1) C ddM_most_114 (by decide) ?_
        obtain ⟨h17, h⟩ := gdN h
        obtain ⟨q16, hq16, h⟩ := bindN h
        refine zz_callV0 (As := [.int 1]) C ddM_most_115 wd_1748 my_M_pagesThat mv_M_pagesThat ⟨_, rfl, rfl⟩ (xM_pagesThat hG (d - 1) (by omega) hq16) (by omega) h17 rfl rfl (Nat.le_of_ble_eq_true rfl) ?_
        obtain rfl := Option.some.inj h
        exact zz_iret C E ddM_most_118
      replace h := iteF h hs22_6
      by_cases hs22_7 : v1 = 7
      · replace h := iteT h hs22_7
        rw [hs22_7]
        refine zz_tableIn (tgt := 119) C ddM_most_22 (by decide) (by decide) rfl rfl ?_
        refine zz_aload_n C 0 ddM_most_119 rfl rfl ?_
        obtain ⟨h19, h⟩ := gdN h
        obtain ⟨q18, hq18, h⟩ := bindN h
        refine zz_callV0 (As := []) C ddM_most_120 wd_1633 my_M_heldMany mv_M_heldMany ⟨_, rfl, rfl⟩ (xM_heldMany hG (d - 1) (by omega) hq18) (by omega) h19 rfl rfl (Nat.le_of_ble_eq_true rfl) ?_
        obtain rfl := Option.some.inj h
        exact zz_iret C E ddM_most_123
      replace h := iteF h hs22_7
      by_cases hs22_8 : v1 = 8
      · replace h := iteT h hs22_8
        rw [hs22_8]
        refine zz_tableIn (tgt := 124) C ddM_most_22 (by decide) (by decide) rfl rfl ?_
        refine zz_aload_n C 0 ddM_most_124 rfl rfl ?_
        obtain ⟨h21, h⟩ := gdN h
        obtain ⟨q20, hq20, h⟩ := bindN h
        refine zz_callV0 (As := []) C ddM_most_125 wd_1752 my_M_outMany mv_M_outMany ⟨_, rfl, rfl⟩ (xM_outMany hG (d - 1) (by omega) hq20) (by omega) h21 rfl rfl (Nat.le_of_ble_eq_true rfl) ?_
        obtain rfl := Option.some.inj h
        exact zz_iret C E ddM_most_128
      replace h := iteF h hs22_8
      by_cases hs22_9 : v1 = 9
      · replace h := iteT h hs22_9
        rw [hs22_9]
        refine zz_tableIn (tgt := 129) C ddM_most_22 (by decide) (by decide) rfl rfl ?_
        refine zz_aload_n C 0 ddM_most_129 rfl rfl ?_
        obtain ⟨h23, h⟩ := gdN h
        obtain ⟨q22, hq22, h⟩ := bindN h
        refine zz_callV0 (As := []) C ddM_most_130 wd_1756 my_M_idle mv_M_idle ⟨_, rfl, rfl⟩ (xM_idle hG (d - 1) (by omega) hq22) (by omega) h23 rfl rfl (Nat.le_of_ble_eq_true rfl) ?_
        obtain rfl := Option.some.inj h
        exact zz_iret C E ddM_most_133
      replace h := iteF h hs22_9
      by_cases hs22_10 : v1 = 10
      · replace h := iteT h hs22_10
        rw [hs22_10]
        refine zz_tableIn (tgt := 134) C ddM_most_22 (by decide) (by decide) rfl rfl ?_
        refine zz_aload_n C 0 ddM_most_134 rfl rfl ?_
        obtain ⟨h25, h⟩ := gdN h
        obtain ⟨q24, hq24, h⟩ := bindN h
        refine zz_callV0 (As := []) C ddM_most_135 wd_1760 my_M_foreign mv_M_foreign ⟨_, rfl, rfl⟩ (xM_foreign hG (d - 1) (by omega) hq24) (by omega) h25 rfl rfl (Nat.le_of_ble_eq_true rfl) ?_
        obtain rfl := Option.some.inj h
        exact zz_iret C E ddM_most_138
      replace h := iteF h hs22_10
      have ths22_0 := lv_neT (a := 0) hs22_0 (by decide)
      have ths22_1 := lv_neT (a := 1) hs22_1 (by decide)
      have ths22_2 := lv_neT (a := 2) hs22_2 (by decide)
      have ths22_3 := lv_neT (a := 3) hs22_3 (by decide)
      have ths22_4 := lv_neT (a := 4) hs22_4 (by decide)
      have ths22_5 := lv_neT (a := 5) hs22_5 (by decide)
      have ths22_6 := lv_neT (a := 6) hs22_6 (by decide)
      have ths22_7 := lv_neT (a := 7) hs22_7 (by decide)
      have ths22_8 := lv_neT (a := 8) hs22_8 (by decide)
      have ths22_9 := lv_neT (a := 9) hs22_9 (by decide)
      have ths22_10 := lv_neT (a := 10) hs22_10 (by decide)
      refine zz_tableOut (tgt := 139) C ddM_most_22 (by omega) rfl ?_
      refine zz_aload_n C 0 ddM_most_139 rfl rfl ?_
      obtain ⟨h27, h⟩ := gdN h
      obtain ⟨q26, hq26, h⟩ := bindN h
      refine zz_callV0 (As := []) C ddM_most_140 wd_1764 my_M_lostMany mv_M_lostMany ⟨_, rfl, rfl⟩ (xM_lostMany hG (d - 1) (by omega) hq26) (by omega) h27 rfl rfl (Nat.le_of_ble_eq_true rfl) ?_
      obtain rfl := Option.some.inj h
      exact zz_iret C E ddM_most_143
    · replace h := iteT h hc
      refine zz_loc (L1 := []) [] rfl ?_
      exact zBM_most_17 hG C N hD hd E h
theorem ddM_image_0 : decode cM_image 0 = .ok (.aload_n 0, 1) := by decide +kernel
theorem ddM_image_1 : decode cM_image 1 = .ok (.invokevirtual 160, 3) := by decide +kernel
theorem ddM_image_4 : decode cM_image 4 = .ok (.ifCond .ne 5, 3) := by decide +kernel
theorem ddM_image_7 : decode cM_image 7 = .ok (.iconst (-1), 1) := by decide +kernel
theorem ddM_image_8 : decode cM_image 8 = .ok (.ireturn, 1) := by decide +kernel
theorem ddM_image_9 : decode cM_image 9 = .ok (.iconst 0, 1) := by decide +kernel
theorem ddM_image_10 : decode cM_image 10 = .ok (.istore_n 1, 1) := by decide +kernel
theorem ddM_image_11 : decode cM_image 11 = .ok (.iload_n 1, 1) := by decide +kernel
theorem ddM_image_12 : decode cM_image 12 = .ok (.sipush 3893, 3) := by decide +kernel
theorem ddM_image_15 : decode cM_image 15 = .ok (.if_icmp .ge 21, 3) := by decide +kernel
theorem ddM_image_18 : decode cM_image 18 = .ok (.aload_n 0, 1) := by decide +kernel
theorem ddM_image_19 : decode cM_image 19 = .ok (.getfield 61, 3) := by decide +kernel
theorem ddM_image_22 : decode cM_image 22 = .ok (.iload_n 1, 1) := by decide +kernel
theorem ddM_image_23 : decode cM_image 23 = .ok (.aload_n 0, 1) := by decide +kernel
theorem ddM_image_24 : decode cM_image 24 = .ok (.getfield 31, 3) := by decide +kernel
theorem ddM_image_27 : decode cM_image 27 = .ok (.iload_n 1, 1) := by decide +kernel
theorem ddM_image_28 : decode cM_image 28 = .ok (.iaload, 1) := by decide +kernel
theorem ddM_image_29 : decode cM_image 29 = .ok (.iastore, 1) := by decide +kernel
theorem ddM_image_30 : decode cM_image 30 = .ok (.iinc 1 1, 3) := by decide +kernel
theorem ddM_image_33 : decode cM_image 33 = .ok (.goto (-22), 3) := by decide +kernel
theorem ddM_image_36 : decode cM_image 36 = .ok (.aload_n 0, 1) := by decide +kernel
theorem ddM_image_37 : decode cM_image 37 = .ok (.iconst 1, 1) := by decide +kernel
theorem ddM_image_38 : decode cM_image 38 = .ok (.putfield 150, 3) := by decide +kernel
theorem ddM_image_41 : decode cM_image 41 = .ok (.aload_n 0, 1) := by decide +kernel
theorem ddM_image_42 : decode cM_image 42 = .ok (.invokevirtual 338, 3) := by decide +kernel
theorem ddM_image_45 : decode cM_image 45 = .ok (.ireturn, 1) := by decide +kernel
set_option maxHeartbeats 2000000 in
theorem zBM_image_11 {G : GXM} {X : CxM} (hG : GokM G) (C : CoM G X cM_image "HomeFreedModel") (N : mLM X = 2) {d : Nat} (hD : dpM X = d) (hd : 3 ≤ d) {v0 : Nat} {K : Nat → Int32 → Mem → Option ((Int32 × Mem))} {q : (Int32 × Mem)} (hK : ∀ (v1 : Int32) (M : Mem), K v0 v1 M = some q → ZM G X 11 [(0, .ref v0), (1, .int v1)] [] M 0 0) (hr : ∀ r : Int32 × Mem, q =  r → EnM G X (some .int) (some (.int r.1)) r.2 0 0) {v1 : Int32} {M : Mem} (h : BM_image_11 K v0 v1 M = some q) : ZM G X 11 [(0, .ref v0), (1, .int v1)] [] M 0 0 := by
  unfold BM_image_11 at h
  refine zz_iload_n C 1 ddM_image_11 rfl rfl ?_
  refine zz_sipush (v := 3893) C ddM_image_12 (by decide) ?_
  refine zz_icmp_ge (tgt := 36) C ddM_image_15 rfl (fun hc => ?_) (fun hc => ?_)
  · replace h := iteT h hc
    refine zz_aload_n C 0 ddM_image_36 rfl rfl ?_
    refine zz_iconst (v := 1) C ddM_image_37 (by decide) ?_
    obtain ⟨h1, h⟩ := gdN h
    refine zz_puti C ddM_image_38 fl_M_150 rfl rfl rfl h1 ?_
    refine zz_aload_n C 0 ddM_image_41 rfl rfl ?_
    obtain ⟨q2, hq2, h⟩ := bindN h
    refine zz_callV0 (As := []) C ddM_image_42 wd_1633 my_M_heldMany mv_M_heldMany ⟨_, rfl, rfl⟩ (xM_heldMany hG (d - 1) (by omega) hq2) (by omega) h1 rfl rfl (Nat.le_of_ble_eq_true rfl) ?_
    exact zz_iret C (hr _ (Option.some.inj h).symm) ddM_image_45
  · replace h := iteF h hc
    refine zz_aload_n C 0 ddM_image_18 rfl rfl ?_
    obtain ⟨h3, h⟩ := gdN h
    obtain ⟨h4, h⟩ := gdN h
    refine zz_getr C ddM_image_19 fl_M_61 rfl h3 (of_decide_eq_true h4) ?_
    refine zz_iload_n C 1 ddM_image_22 rfl rfl ?_
    refine zz_aload_n C 0 ddM_image_23 rfl rfl ?_
    obtain ⟨h5, h⟩ := gdN h
    refine zz_getr C ddM_image_24 fl_M_31 rfl h3 (of_decide_eq_true h5) ?_
    refine zz_iload_n C 1 ddM_image_27 rfl rfl ?_
    obtain ⟨h6, h⟩ := gdN h
    refine zz_iaload C ddM_image_28 h6 ?_
    obtain ⟨h7, h⟩ := gdN h
    refine zz_iastore C ddM_image_29 h7 ?_
    refine zz_iinc (v := v1 + 1) (L1 := [(1, .int (v1 + 1)), (0, .ref v0)]) C 1 ddM_image_30 rfl rfl N (by decide) rfl ?_
    refine zz_goto (tgt := 11) C ddM_image_33 rfl ?_
    refine zz_loc (L1 := [(0, .ref v0), (1, .int (v1 + 1))]) [1, 0] rfl ?_
    exact hK _ _ h
set_option maxHeartbeats 2000000 in
theorem zLM_image_11 {G : GXM} {X : CxM} (hG : GokM G) (C : CoM G X cM_image "HomeFreedModel") (N : mLM X = 2) {d : Nat} (hD : dpM X = d) (hd : 3 ≤ d) {v0 : Nat} {q : (Int32 × Mem)} : ∀ (f : Nat) (v1 : Int32) (M : Mem), LM_image_11 f v0 v1 M = some q → (hr : ∀ r : Int32 × Mem, q =  r → EnM G X (some .int) (some (.int r.1)) r.2 0 0) → ZM G X 11 [(0, .ref v0), (1, .int v1)] [] M 0 0 := by
  intro f
  induction f with
  | zero => intro v1 M h; cases h
  | succ f ih =>
    intro v1 M h hr
    exact zBM_image_11 hG C N hD hd (K := LM_image_11 f) (q := q) (fun v1 M h => ih v1 M h hr) hr h
set_option maxHeartbeats 2000000 in
theorem xM_image {G : GXM} {l : Launch} (hG : GokM G) (d : Nat) (hd : 3 ≤ d) {v0 : Nat} {M : Mem} {q : Int32 × Mem} (h : fM_image v0 M = some q) : ExM G l d 0 0 yM_image cM_image 2 (some .int) [.ref v0] M (some (.int q.1)) q.2 := by
  refine ex_of hG (by decide +kernel) (Nat.le_of_ble_eq_true rfl) ?_
  intro X hl C E N hD hn
  show ZM G X 0 [(0, .ref v0)] [] M 0 0
  unfold fM_image at h
  refine zz_aload_n C 0 ddM_image_0 rfl rfl ?_
  obtain ⟨h2, h⟩ := gdN h
  obtain ⟨q1, hq1, h⟩ := bindN h
  refine zz_callV0 (As := []) C ddM_image_1 wd_1362 my_M_isArena mv_M_isArena ⟨_, rfl, rfl⟩ (xM_isArena hG (d - 1) (by omega) hq1) (by omega) h2 rfl rfl (Nat.le_of_ble_eq_true rfl) ?_
  refine zz_if_ne (tgt := 9) C ddM_image_4 rfl (fun hc => ?_) (fun hc => ?_)
  · replace h := iteF h hc
    refine zz_iconst (v := 0) C ddM_image_9 (by decide) ?_
    refine zz_istore_n (L1 := [(1, .int 0), (0, .ref v0)]) C ddM_image_10 rfl N (by decide) rfl ?_
    refine zz_loc (L1 := [(0, .ref v0), (1, .int 0)]) [1, 0] rfl ?_
    obtain ⟨q3, hq3, h⟩ := bindN h
    refine zLM_image_11 hG C N hD hd 1000000 _ _ hq3 ?_
    · intro r4 eq3; replace eq3 := eq3.symm; subst eq3
      obtain rfl := Option.some.inj h
      exact E
  · replace h := iteT h hc
    refine zz_iconst (v := (-1)) C ddM_image_7 (by decide) ?_
    obtain rfl := Option.some.inj h
    exact zz_iret C E ddM_image_8
theorem ddM_back_0 : decode cM_back 0 = .ok (.aload_n 0, 1) := by decide +kernel
theorem ddM_back_1 : decode cM_back 1 = .ok (.getfield 150, 3) := by decide +kernel
theorem ddM_back_4 : decode cM_back 4 = .ok (.ifCond .ne 5, 3) := by decide +kernel
theorem ddM_back_7 : decode cM_back 7 = .ok (.iconst (-1), 1) := by decide +kernel
theorem ddM_back_8 : decode cM_back 8 = .ok (.ireturn, 1) := by decide +kernel
theorem ddM_back_9 : decode cM_back 9 = .ok (.iconst 0, 1) := by decide +kernel
theorem ddM_back_10 : decode cM_back 10 = .ok (.istore_n 1, 1) := by decide +kernel
theorem ddM_back_11 : decode cM_back 11 = .ok (.iload_n 1, 1) := by decide +kernel
theorem ddM_back_12 : decode cM_back 12 = .ok (.sipush 3893, 3) := by decide +kernel
theorem ddM_back_15 : decode cM_back 15 = .ok (.if_icmp .ge 21, 3) := by decide +kernel
theorem ddM_back_18 : decode cM_back 18 = .ok (.aload_n 0, 1) := by decide +kernel
theorem ddM_back_19 : decode cM_back 19 = .ok (.getfield 31, 3) := by decide +kernel
theorem ddM_back_22 : decode cM_back 22 = .ok (.iload_n 1, 1) := by decide +kernel
theorem ddM_back_23 : decode cM_back 23 = .ok (.aload_n 0, 1) := by decide +kernel
theorem ddM_back_24 : decode cM_back 24 = .ok (.getfield 61, 3) := by decide +kernel
theorem ddM_back_27 : decode cM_back 27 = .ok (.iload_n 1, 1) := by decide +kernel
theorem ddM_back_28 : decode cM_back 28 = .ok (.iaload, 1) := by decide +kernel
theorem ddM_back_29 : decode cM_back 29 = .ok (.iastore, 1) := by decide +kernel
theorem ddM_back_30 : decode cM_back 30 = .ok (.iinc 1 1, 3) := by decide +kernel
theorem ddM_back_33 : decode cM_back 33 = .ok (.goto (-22), 3) := by decide +kernel
theorem ddM_back_36 : decode cM_back 36 = .ok (.aload_n 0, 1) := by decide +kernel
theorem ddM_back_37 : decode cM_back 37 = .ok (.iconst 0, 1) := by decide +kernel
theorem ddM_back_38 : decode cM_back 38 = .ok (.putfield 147, 3) := by decide +kernel
theorem ddM_back_41 : decode cM_back 41 = .ok (.aload_n 0, 1) := by decide +kernel
theorem ddM_back_42 : decode cM_back 42 = .ok (.invokevirtual 338, 3) := by decide +kernel
theorem ddM_back_45 : decode cM_back 45 = .ok (.ireturn, 1) := by decide +kernel
set_option maxHeartbeats 2000000 in
theorem zBM_back_11 {G : GXM} {X : CxM} (hG : GokM G) (C : CoM G X cM_back "HomeFreedModel") (N : mLM X = 2) {d : Nat} (hD : dpM X = d) (hd : 3 ≤ d) {v0 : Nat} {K : Nat → Int32 → Mem → Option ((Int32 × Mem))} {q : (Int32 × Mem)} (hK : ∀ (v1 : Int32) (M : Mem), K v0 v1 M = some q → ZM G X 11 [(0, .ref v0), (1, .int v1)] [] M 0 0) (hr : ∀ r : Int32 × Mem, q =  r → EnM G X (some .int) (some (.int r.1)) r.2 0 0) {v1 : Int32} {M : Mem} (h : BM_back_11 K v0 v1 M = some q) : ZM G X 11 [(0, .ref v0), (1, .int v1)] [] M 0 0 := by
  unfold BM_back_11 at h
  refine zz_iload_n C 1 ddM_back_11 rfl rfl ?_
  refine zz_sipush (v := 3893) C ddM_back_12 (by decide) ?_
  refine zz_icmp_ge (tgt := 36) C ddM_back_15 rfl (fun hc => ?_) (fun hc => ?_)
  · replace h := iteT h hc
    refine zz_aload_n C 0 ddM_back_36 rfl rfl ?_
    refine zz_iconst (v := 0) C ddM_back_37 (by decide) ?_
    obtain ⟨h1, h⟩ := gdN h
    refine zz_puti C ddM_back_38 fl_M_147 rfl rfl rfl h1 ?_
    refine zz_aload_n C 0 ddM_back_41 rfl rfl ?_
    obtain ⟨q2, hq2, h⟩ := bindN h
    refine zz_callV0 (As := []) C ddM_back_42 wd_1633 my_M_heldMany mv_M_heldMany ⟨_, rfl, rfl⟩ (xM_heldMany hG (d - 1) (by omega) hq2) (by omega) h1 rfl rfl (Nat.le_of_ble_eq_true rfl) ?_
    exact zz_iret C (hr _ (Option.some.inj h).symm) ddM_back_45
  · replace h := iteF h hc
    refine zz_aload_n C 0 ddM_back_18 rfl rfl ?_
    obtain ⟨h3, h⟩ := gdN h
    obtain ⟨h4, h⟩ := gdN h
    refine zz_getr C ddM_back_19 fl_M_31 rfl h3 (of_decide_eq_true h4) ?_
    refine zz_iload_n C 1 ddM_back_22 rfl rfl ?_
    refine zz_aload_n C 0 ddM_back_23 rfl rfl ?_
    obtain ⟨h5, h⟩ := gdN h
    refine zz_getr C ddM_back_24 fl_M_61 rfl h3 (of_decide_eq_true h5) ?_
    refine zz_iload_n C 1 ddM_back_27 rfl rfl ?_
    obtain ⟨h6, h⟩ := gdN h
    refine zz_iaload C ddM_back_28 h6 ?_
    obtain ⟨h7, h⟩ := gdN h
    refine zz_iastore C ddM_back_29 h7 ?_
    refine zz_iinc (v := v1 + 1) (L1 := [(1, .int (v1 + 1)), (0, .ref v0)]) C 1 ddM_back_30 rfl rfl N (by decide) rfl ?_
    refine zz_goto (tgt := 11) C ddM_back_33 rfl ?_
    refine zz_loc (L1 := [(0, .ref v0), (1, .int (v1 + 1))]) [1, 0] rfl ?_
    exact hK _ _ h
set_option maxHeartbeats 2000000 in
theorem zLM_back_11 {G : GXM} {X : CxM} (hG : GokM G) (C : CoM G X cM_back "HomeFreedModel") (N : mLM X = 2) {d : Nat} (hD : dpM X = d) (hd : 3 ≤ d) {v0 : Nat} {q : (Int32 × Mem)} : ∀ (f : Nat) (v1 : Int32) (M : Mem), LM_back_11 f v0 v1 M = some q → (hr : ∀ r : Int32 × Mem, q =  r → EnM G X (some .int) (some (.int r.1)) r.2 0 0) → ZM G X 11 [(0, .ref v0), (1, .int v1)] [] M 0 0 := by
  intro f
  induction f with
  | zero => intro v1 M h; cases h
  | succ f ih =>
    intro v1 M h hr
    exact zBM_back_11 hG C N hD hd (K := LM_back_11 f) (q := q) (fun v1 M h => ih v1 M h hr) hr h
set_option maxHeartbeats 2000000 in
theorem xM_back {G : GXM} {l : Launch} (hG : GokM G) (d : Nat) (hd : 3 ≤ d) {v0 : Nat} {M : Mem} {q : Int32 × Mem} (h : fM_back v0 M = some q) : ExM G l d 0 0 yM_back cM_back 2 (some .int) [.ref v0] M (some (.int q.1)) q.2 := by
  refine ex_of hG (by decide +kernel) (Nat.le_of_ble_eq_true rfl) ?_
  intro X hl C E N hD hn
  show ZM G X 0 [(0, .ref v0)] [] M 0 0
  unfold fM_back at h
  refine zz_aload_n C 0 ddM_back_0 rfl rfl ?_
  obtain ⟨h1, h⟩ := gdN h
  refine zz_geti C ddM_back_1 fl_M_150 rfl h1 ?_
  refine zz_if_ne (tgt := 9) C ddM_back_4 rfl (fun hc => ?_) (fun hc => ?_)
  · replace h := iteF h hc
    refine zz_iconst (v := 0) C ddM_back_9 (by decide) ?_
    refine zz_istore_n (L1 := [(1, .int 0), (0, .ref v0)]) C ddM_back_10 rfl N (by decide) rfl ?_
    refine zz_loc (L1 := [(0, .ref v0), (1, .int 0)]) [1, 0] rfl ?_
    obtain ⟨q2, hq2, h⟩ := bindN h
    refine zLM_back_11 hG C N hD hd 1000000 _ _ hq2 ?_
    · intro r3 eq2; replace eq2 := eq2.symm; subst eq2
      obtain rfl := Option.some.inj h
      exact E
  · replace h := iteT h hc
    refine zz_iconst (v := (-1)) C ddM_back_7 (by decide) ?_
    obtain rfl := Option.some.inj h
    exact zz_iret C E ddM_back_8
theorem ddM_count_0 : decode cM_count 0 = .ok (.iload_n 1, 1) := by decide +kernel
theorem ddM_count_1 : decode cM_count 1 = .ok (.tableswitch 64 0 4 #[35, 40, 45, 50, 59], 35) := by decide +kernel
theorem ddM_count_36 : decode cM_count 36 = .ok (.aload_n 0, 1) := by decide +kernel
theorem ddM_count_37 : decode cM_count 37 = .ok (.getfield 144, 3) := by decide +kernel
theorem ddM_count_40 : decode cM_count 40 = .ok (.ireturn, 1) := by decide +kernel
theorem ddM_count_41 : decode cM_count 41 = .ok (.aload_n 0, 1) := by decide +kernel
theorem ddM_count_42 : decode cM_count 42 = .ok (.getfield 157, 3) := by decide +kernel
theorem ddM_count_45 : decode cM_count 45 = .ok (.ireturn, 1) := by decide +kernel
theorem ddM_count_46 : decode cM_count 46 = .ok (.aload_n 0, 1) := by decide +kernel
theorem ddM_count_47 : decode cM_count 47 = .ok (.getfield 72, 3) := by decide +kernel
theorem ddM_count_50 : decode cM_count 50 = .ok (.ireturn, 1) := by decide +kernel
theorem ddM_count_51 : decode cM_count 51 = .ok (.aload_n 0, 1) := by decide +kernel
theorem ddM_count_52 : decode cM_count 52 = .ok (.getfield 31, 3) := by decide +kernel
theorem ddM_count_55 : decode cM_count 55 = .ok (.sipush 3712, 3) := by decide +kernel
theorem ddM_count_58 : decode cM_count 58 = .ok (.iaload, 1) := by decide +kernel
theorem ddM_count_59 : decode cM_count 59 = .ok (.ireturn, 1) := by decide +kernel
theorem ddM_count_60 : decode cM_count 60 = .ok (.aload_n 0, 1) := by decide +kernel
theorem ddM_count_61 : decode cM_count 61 = .ok (.getfield 147, 3) := by decide +kernel
theorem ddM_count_64 : decode cM_count 64 = .ok (.ireturn, 1) := by decide +kernel
theorem ddM_count_65 : decode cM_count 65 = .ok (.ldc_w 347, 3) := by decide +kernel
theorem ddM_count_68 : decode cM_count 68 = .ok (.ireturn, 1) := by decide +kernel
set_option maxHeartbeats 2000000 in
theorem xM_count {G : GXM} {l : Launch} (hG : GokM G) (d : Nat) (hd : 0 ≤ d) {v0 : Nat} {v1 : Int32} {M : Mem} {q : Int32 × Mem} (h : fM_count v0 v1 M = some q) : ExM G l d 0 0 yM_count cM_count 2 (some .int) [.ref v0, .int v1] M (some (.int q.1)) q.2 := by
  refine ex_of hG (by decide +kernel) (Nat.le_of_ble_eq_true rfl) ?_
  intro X hl C E N hD hn
  show ZM G X 0 [(0, .ref v0), (1, .int v1)] [] M 0 0
  unfold fM_count at h
  refine zz_iload_n C 1 ddM_count_0 rfl rfl ?_
  by_cases hs1_0 : v1 = 0
  · replace h := iteT h hs1_0
    rw [hs1_0]
    refine zz_tableIn (tgt := 36) C ddM_count_1 (by decide) (by decide) rfl rfl ?_
    refine zz_aload_n C 0 ddM_count_36 rfl rfl ?_
    obtain ⟨h1, h⟩ := gdN h
    refine zz_geti C ddM_count_37 fl_M_144 rfl h1 ?_
    obtain rfl := Option.some.inj h
    exact zz_iret C E ddM_count_40
  replace h := iteF h hs1_0
  by_cases hs1_1 : v1 = 1
  · replace h := iteT h hs1_1
    rw [hs1_1]
    refine zz_tableIn (tgt := 41) C ddM_count_1 (by decide) (by decide) rfl rfl ?_
    refine zz_aload_n C 0 ddM_count_41 rfl rfl ?_
    obtain ⟨h2, h⟩ := gdN h
    refine zz_geti C ddM_count_42 fl_M_157 rfl h2 ?_
    obtain rfl := Option.some.inj h
    exact zz_iret C E ddM_count_45
  replace h := iteF h hs1_1
  by_cases hs1_2 : v1 = 2
  · replace h := iteT h hs1_2
    rw [hs1_2]
    refine zz_tableIn (tgt := 46) C ddM_count_1 (by decide) (by decide) rfl rfl ?_
    refine zz_aload_n C 0 ddM_count_46 rfl rfl ?_
    obtain ⟨h3, h⟩ := gdN h
    refine zz_geti C ddM_count_47 fl_M_72 rfl h3 ?_
    obtain rfl := Option.some.inj h
    exact zz_iret C E ddM_count_50
  replace h := iteF h hs1_2
  by_cases hs1_3 : v1 = 3
  · replace h := iteT h hs1_3
    rw [hs1_3]
    refine zz_tableIn (tgt := 51) C ddM_count_1 (by decide) (by decide) rfl rfl ?_
    refine zz_aload_n C 0 ddM_count_51 rfl rfl ?_
    obtain ⟨h4, h⟩ := gdN h
    obtain ⟨h5, h⟩ := gdN h
    refine zz_getr C ddM_count_52 fl_M_31 rfl h4 (of_decide_eq_true h5) ?_
    refine zz_sipush (v := 3712) C ddM_count_55 (by decide) ?_
    obtain ⟨h6, h⟩ := gdN h
    refine zz_iaload C ddM_count_58 h6 ?_
    obtain rfl := Option.some.inj h
    exact zz_iret C E ddM_count_59
  replace h := iteF h hs1_3
  by_cases hs1_4 : v1 = 4
  · replace h := iteT h hs1_4
    rw [hs1_4]
    refine zz_tableIn (tgt := 60) C ddM_count_1 (by decide) (by decide) rfl rfl ?_
    refine zz_aload_n C 0 ddM_count_60 rfl rfl ?_
    obtain ⟨h7, h⟩ := gdN h
    refine zz_geti C ddM_count_61 fl_M_147 rfl h7 ?_
    obtain rfl := Option.some.inj h
    exact zz_iret C E ddM_count_64
  replace h := iteF h hs1_4
  have ths1_0 := lv_neT (a := 0) hs1_0 (by decide)
  have ths1_1 := lv_neT (a := 1) hs1_1 (by decide)
  have ths1_2 := lv_neT (a := 2) hs1_2 (by decide)
  have ths1_3 := lv_neT (a := 3) hs1_3 (by decide)
  have ths1_4 := lv_neT (a := 4) hs1_4 (by decide)
  refine zz_tableOut (tgt := 65) C ddM_count_1 (by omega) rfl ?_
  refine zz_ldcw C ddM_count_65 wd_1657 rfl ?_
  obtain rfl := Option.some.inj h
  exact zz_iret C E ddM_count_68
