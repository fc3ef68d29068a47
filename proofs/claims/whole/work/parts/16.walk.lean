theorem ddM_usedOf_0 : decode cM_usedOf 0 = .ok (.aload_n 0, 1) := by decide +kernel
theorem ddM_usedOf_1 : decode cM_usedOf 1 = .ok (.iload_n 1, 1) := by decide +kernel
theorem ddM_usedOf_2 : decode cM_usedOf 2 = .ok (.invokevirtual 176, 3) := by decide +kernel
theorem ddM_usedOf_5 : decode cM_usedOf 5 = .ok (.aload_n 0, 1) := by decide +kernel
theorem ddM_usedOf_6 : decode cM_usedOf 6 = .ok (.iload_n 1, 1) := by decide +kernel
theorem ddM_usedOf_7 : decode cM_usedOf 7 = .ok (.invokevirtual 179, 3) := by decide +kernel
theorem ddM_usedOf_10 : decode cM_usedOf 10 = .ok (.isub, 1) := by decide +kernel
theorem ddM_usedOf_11 : decode cM_usedOf 11 = .ok (.ireturn, 1) := by decide +kernel
set_option maxHeartbeats 2000000 in
theorem xM_usedOf {G : GXM} {l : Launch} (hG : GokM G) (d : Nat) (hd : 2 ≤ d) {v0 : Nat} {v1 : Int32} {M : Mem} {q : Int32 × Mem} (h : fM_usedOf v0 v1 M = some q) : ExM G l d 0 0 yM_usedOf cM_usedOf 2 (some .int) [.ref v0, .int v1] M (some (.int q.1)) q.2 := by
  refine ex_of hG (by decide) (Nat.le_of_ble_eq_true rfl) ?_
  intro X hl C E N hD hn
  show ZM G X 0 [(0, .ref v0), (1, .int v1)] [] M 0 0
  unfold fM_usedOf at h
  refine zz_aload_n C 0 ddM_usedOf_0 rfl rfl ?_
  refine zz_iload_n C 1 ddM_usedOf_1 rfl rfl ?_
  obtain ⟨h2, h⟩ := gdN h
  obtain ⟨q1, hq1, h⟩ := bindN h
  refine zz_callV0 (As := [.int v1]) C ddM_usedOf_2 wd_1390 my_M_blocksOf mv_M_blocksOf ⟨_, rfl, rfl⟩ (xM_blocksOf hG (d - 1) (by omega) hq1) (by omega) h2 rfl rfl (Nat.le_of_ble_eq_true rfl) ?_
  refine zz_aload_n C 0 ddM_usedOf_5 rfl rfl ?_
  refine zz_iload_n C 1 ddM_usedOf_6 rfl rfl ?_
  obtain ⟨h4, h⟩ := gdN h
  obtain ⟨q3, hq3, h⟩ := bindN h
  refine zz_callV0 (As := [.int v1]) C ddM_usedOf_7 wd_1394 my_M_listedOf mv_M_listedOf ⟨_, rfl, rfl⟩ (xM_listedOf hG (d - 1) (by omega) hq3) (by omega) h4 rfl rfl (Nat.le_of_ble_eq_true rfl) ?_
  refine zz_isub C ddM_usedOf_10 ?_
  obtain rfl := Option.some.inj h
  exact zz_iret C E ddM_usedOf_11
theorem ddM_page_0 : decode cM_page 0 = .ok (.aload_n 0, 1) := by decide +kernel
theorem ddM_page_1 : decode cM_page 1 = .ok (.aload_n 0, 1) := by decide +kernel
theorem ddM_page_2 : decode cM_page 2 = .ok (.iload_n 1, 1) := by decide +kernel
theorem ddM_page_3 : decode cM_page 3 = .ok (.invokevirtual 297, 3) := by decide +kernel
theorem ddM_page_6 : decode cM_page 6 = .ok (.ifCond .eq 17, 3) := by decide +kernel
theorem ddM_page_9 : decode cM_page 9 = .ok (.iload_n 2, 1) := by decide +kernel
theorem ddM_page_10 : decode cM_page 10 = .ok (.iconst 0, 1) := by decide +kernel
theorem ddM_page_11 : decode cM_page 11 = .ok (.bipush 6, 2) := by decide +kernel
theorem ddM_page_13 : decode cM_page 13 = .ok (.invokestatic 75, 3) := by decide +kernel
theorem ddM_page_16 : decode cM_page 16 = .ok (.ifCond .eq 7, 3) := by decide +kernel
theorem ddM_page_19 : decode cM_page 19 = .ok (.iconst 0, 1) := by decide +kernel
theorem ddM_page_20 : decode cM_page 20 = .ok (.goto 4, 3) := by decide +kernel
theorem ddM_page_23 : decode cM_page 23 = .ok (.iconst 1, 1) := by decide +kernel
theorem ddM_page_24 : decode cM_page 24 = .ok (.putfield 64, 3) := by decide +kernel
theorem ddM_page_27 : decode cM_page 27 = .ok (.aload_n 0, 1) := by decide +kernel
theorem ddM_page_28 : decode cM_page 28 = .ok (.getfield 64, 3) := by decide +kernel
theorem ddM_page_31 : decode cM_page 31 = .ok (.iconst 1, 1) := by decide +kernel
theorem ddM_page_32 : decode cM_page 32 = .ok (.if_icmp .ne 5, 3) := by decide +kernel
theorem ddM_page_35 : decode cM_page 35 = .ok (.iconst 0, 1) := by decide +kernel
theorem ddM_page_36 : decode cM_page 36 = .ok (.ireturn, 1) := by decide +kernel
theorem ddM_page_37 : decode cM_page 37 = .ok (.aload_n 0, 1) := by decide +kernel
theorem ddM_page_38 : decode cM_page 38 = .ok (.iload_n 1, 1) := by decide +kernel
theorem ddM_page_39 : decode cM_page 39 = .ok (.iconst 0, 1) := by decide +kernel
theorem ddM_page_40 : decode cM_page 40 = .ok (.invokevirtual 170, 3) := by decide +kernel
theorem ddM_page_43 : decode cM_page 43 = .ok (.istore_n 3, 1) := by decide +kernel
theorem ddM_page_44 : decode cM_page 44 = .ok (.iload_n 2, 1) := by decide +kernel
theorem ddM_page_45 : decode cM_page 45 = .ok (.tableswitch 73 0 3 #[31, 33, 52, 67], 31) := by decide +kernel
theorem ddM_page_76 : decode cM_page 76 = .ok (.iload_n 3, 1) := by decide +kernel
theorem ddM_page_77 : decode cM_page 77 = .ok (.ireturn, 1) := by decide +kernel
theorem ddM_page_78 : decode cM_page 78 = .ok (.aload_n 0, 1) := by decide +kernel
theorem ddM_page_79 : decode cM_page 79 = .ok (.iload_n 1, 1) := by decide +kernel
theorem ddM_page_80 : decode cM_page 80 = .ok (.invokevirtual 241, 3) := by decide +kernel
theorem ddM_page_83 : decode cM_page 83 = .ok (.ifCond .eq 12, 3) := by decide +kernel
theorem ddM_page_86 : decode cM_page 86 = .ok (.aload_n 0, 1) := by decide +kernel
theorem ddM_page_87 : decode cM_page 87 = .ok (.iload_n 1, 1) := by decide +kernel
theorem ddM_page_88 : decode cM_page 88 = .ok (.iconst 1, 1) := by decide +kernel
theorem ddM_page_89 : decode cM_page 89 = .ok (.invokevirtual 170, 3) := by decide +kernel
theorem ddM_page_92 : decode cM_page 92 = .ok (.goto 4, 3) := by decide +kernel
theorem ddM_page_95 : decode cM_page 95 = .ok (.iconst (-1), 1) := by decide +kernel
theorem ddM_page_96 : decode cM_page 96 = .ok (.ireturn, 1) := by decide +kernel
theorem ddM_page_97 : decode cM_page 97 = .ok (.iload_n 3, 1) := by decide +kernel
theorem ddM_page_98 : decode cM_page 98 = .ok (.ifCond .ne 7, 3) := by decide +kernel
theorem ddM_page_101 : decode cM_page 101 = .ok (.iconst (-1), 1) := by decide +kernel
theorem ddM_page_102 : decode cM_page 102 = .ok (.goto 9, 3) := by decide +kernel
theorem ddM_page_105 : decode cM_page 105 = .ok (.aload_n 0, 1) := by decide +kernel
theorem ddM_page_106 : decode cM_page 106 = .ok (.iload_n 1, 1) := by decide +kernel
theorem ddM_page_107 : decode cM_page 107 = .ok (.iconst 2, 1) := by decide +kernel
theorem ddM_page_108 : decode cM_page 108 = .ok (.invokevirtual 170, 3) := by decide +kernel
theorem ddM_page_111 : decode cM_page 111 = .ok (.ireturn, 1) := by decide +kernel
theorem ddM_page_112 : decode cM_page 112 = .ok (.aload_n 0, 1) := by decide +kernel
theorem ddM_page_113 : decode cM_page 113 = .ok (.iload_n 1, 1) := by decide +kernel
theorem ddM_page_114 : decode cM_page 114 = .ok (.invokevirtual 201, 3) := by decide +kernel
theorem ddM_page_117 : decode cM_page 117 = .ok (.ireturn, 1) := by decide +kernel
theorem ddM_page_118 : decode cM_page 118 = .ok (.aload_n 0, 1) := by decide +kernel
theorem ddM_page_119 : decode cM_page 119 = .ok (.getfield 31, 3) := by decide +kernel
theorem ddM_page_122 : decode cM_page 122 = .ok (.iload_n 1, 1) := by decide +kernel
theorem ddM_page_123 : decode cM_page 123 = .ok (.iload_n 2, 1) := by decide +kernel
theorem ddM_page_124 : decode cM_page 124 = .ok (.iconst 4, 1) := by decide +kernel
theorem ddM_page_125 : decode cM_page 125 = .ok (.isub, 1) := by decide +kernel
theorem ddM_page_126 : decode cM_page 126 = .ok (.invokestatic 173, 3) := by decide +kernel
theorem ddM_page_129 : decode cM_page 129 = .ok (.iaload, 1) := by decide +kernel
theorem ddM_page_130 : decode cM_page 130 = .ok (.ireturn, 1) := by decide +kernel
set_option maxHeartbeats 2000000 in
theorem zBM_page_111 {G : GXM} {X : CxM} (hG : GokM G) (C : CoM G X cM_page "HomeFreedModel") (N : mLM X = 4) {d : Nat} (hD : dpM X = d) (hd : 3 ≤ d)  {q : Int32 × Mem} (E : EnM G X (some .int) (some (.int q.1)) q.2 0 0) {w0 : Int32} {M : Mem} (h : BM_page_111 w0 M = some q) : ZM G X 111 [] [.int w0] M 0 0 := by
  unfold BM_page_111 at h
  obtain rfl := Option.some.inj h
  exact zz_iret C E ddM_page_111
set_option maxHeartbeats 2000000 in
theorem zBM_page_96 {G : GXM} {X : CxM} (hG : GokM G) (C : CoM G X cM_page "HomeFreedModel") (N : mLM X = 4) {d : Nat} (hD : dpM X = d) (hd : 3 ≤ d)  {q : Int32 × Mem} (E : EnM G X (some .int) (some (.int q.1)) q.2 0 0) {w0 : Int32} {M : Mem} (h : BM_page_96 w0 M = some q) : ZM G X 96 [] [.int w0] M 0 0 := by
  unfold BM_page_96 at h
  obtain rfl := Option.some.inj h
  exact zz_iret C E ddM_page_96
set_option maxHeartbeats 2000000 in
theorem zBM_page_24 {G : GXM} {X : CxM} (hG : GokM G) (C : CoM G X cM_page "HomeFreedModel") (N : mLM X = 4) {d : Nat} (hD : dpM X = d) (hd : 3 ≤ d)  {q : Int32 × Mem} (E : EnM G X (some .int) (some (.int q.1)) q.2 0 0) {v0 : Nat} {v1 : Int32} {v2 : Int32} {w0 : Nat} {w1 : Int32} {M : Mem} (h : BM_page_24 v0 v1 v2 w0 w1 M = some q) : ZM G X 24 [(0, .ref v0), (1, .int v1), (2, .int v2)] [.int w1, .ref w0] M 0 0 := by
  unfold BM_page_24 at h
  obtain ⟨h1, h⟩ := gdN h
  refine zz_puti C ddM_page_24 fl_M_64 rfl rfl rfl h1 ?_
  refine zz_aload_n C 0 ddM_page_27 rfl rfl ?_
  obtain ⟨h2, h⟩ := gdN h
  refine zz_geti C ddM_page_28 fl_M_64 rfl h2 ?_
  refine zz_iconst (v := 1) C ddM_page_31 (by decide) ?_
  refine zz_icmp_ne (tgt := 37) C ddM_page_32 rfl (fun hc => ?_) (fun hc => ?_)
  · replace h := iteF h hc
    refine zz_aload_n C 0 ddM_page_37 rfl rfl ?_
    refine zz_iload_n C 1 ddM_page_38 rfl rfl ?_
    refine zz_iconst (v := 0) C ddM_page_39 (by decide) ?_
    obtain ⟨q3, hq3, h⟩ := bindN h
    refine zz_callV0 (As := [.int v1, .int 0]) C ddM_page_40 wd_1378 my_M_of mv_M_of ⟨_, rfl, rfl⟩ (xM_of hG (d - 1) (by omega) hq3) (by omega) h2 rfl rfl (Nat.le_of_ble_eq_true rfl) ?_
    refine zz_istore_n (L1 := [(3, .int q3.1), (0, .ref v0), (1, .int v1), (2, .int v2)]) C ddM_page_43 rfl N (by decide) rfl ?_
    refine zz_iload_n C 3 ddM_page_44 rfl rfl ?_
    by_cases hs45_0 : v2 = 0
    · replace h := iteT h hs45_0
      rw [hs45_0]
      refine zz_tableIn (tgt := 76) C ddM_page_45 (by decide) (by decide) rfl rfl ?_
      refine zz_iload_n C 0 ddM_page_76 rfl rfl ?_
      obtain rfl := Option.some.inj h
      exact zz_iret C E ddM_page_77
    replace h := iteF h hs45_0
    by_cases hs45_1 : v2 = 1
    · replace h := iteT h hs45_1
      rw [hs45_1]
      refine zz_tableIn (tgt := 78) C ddM_page_45 (by decide) (by decide) rfl rfl ?_
      refine zz_aload_n C 1 ddM_page_78 rfl rfl ?_
      refine zz_iload_n C 2 ddM_page_79 rfl rfl ?_
      obtain ⟨h5, h⟩ := gdN h
      obtain ⟨q4, hq4, h⟩ := bindN h
      refine zz_callV0 (As := [.int v1]) C ddM_page_80 wd_1382 my_M_isOwned mv_M_isOwned ⟨_, rfl, rfl⟩ (xM_isOwned hG (d - 1) (by omega) hq4) (by omega) h5 rfl rfl (Nat.le_of_ble_eq_true rfl) ?_
      refine zz_if_eq (tgt := 95) C ddM_page_83 rfl (fun hc => ?_) (fun hc => ?_)
      · replace h := iteT h hc
        refine zz_iconst (v := (-1)) C ddM_page_95 (by decide) ?_
        refine zz_loc (L1 := []) [] rfl ?_
        exact zBM_page_96 hG C N hD hd E h
      · replace h := iteF h hc
        refine zz_aload_n C 1 ddM_page_86 rfl rfl ?_
        refine zz_iload_n C 2 ddM_page_87 rfl rfl ?_
        refine zz_iconst (v := 1) C ddM_page_88 (by decide) ?_
        obtain ⟨h7, h⟩ := gdN h
        obtain ⟨q6, hq6, h⟩ := bindN h
        refine zz_callV0 (As := [.int v1, .int 1]) C ddM_page_89 wd_1378 my_M_of mv_M_of ⟨_, rfl, rfl⟩ (xM_of hG (d - 1) (by omega) hq6) (by omega) h7 rfl rfl (Nat.le_of_ble_eq_true rfl) ?_
        refine zz_goto (tgt := 96) C ddM_page_92 rfl ?_
        refine zz_loc (L1 := []) [] rfl ?_
        exact zBM_page_96 hG C N hD hd E h
    replace h := iteF h hs45_1
    by_cases hs45_2 : v2 = 2
    · replace h := iteT h hs45_2
      rw [hs45_2]
      refine zz_tableIn (tgt := 97) C ddM_page_45 (by decide) (by decide) rfl rfl ?_
      refine zz_iload_n C 0 ddM_page_97 rfl rfl ?_
      refine zz_if_ne (tgt := 105) C ddM_page_98 rfl (fun hc => ?_) (fun hc => ?_)
      · replace h := iteF h hc
        refine zz_aload_n C 1 ddM_page_105 rfl rfl ?_
        refine zz_iload_n C 2 ddM_page_106 rfl rfl ?_
        refine zz_iconst (v := 2) C ddM_page_107 (by decide) ?_
        obtain ⟨h9, h⟩ := gdN h
        obtain ⟨q8, hq8, h⟩ := bindN h
        refine zz_callV0 (As := [.int v1, .int 2]) C ddM_page_108 wd_1378 my_M_of mv_M_of ⟨_, rfl, rfl⟩ (xM_of hG (d - 1) (by omega) hq8) (by omega) h9 rfl rfl (Nat.le_of_ble_eq_true rfl) ?_
        refine zz_loc (L1 := []) [] rfl ?_
        exact zBM_page_111 hG C N hD hd E h
      · replace h := iteT h hc
        refine zz_iconst (v := (-1)) C ddM_page_101 (by decide) ?_
        refine zz_goto (tgt := 111) C ddM_page_102 rfl ?_
        refine zz_loc (L1 := []) [] rfl ?_
        exact zBM_page_111 hG C N hD hd E h
    replace h := iteF h hs45_2
    by_cases hs45_3 : v2 = 3
    · replace h := iteT h hs45_3
      rw [hs45_3]
      refine zz_tableIn (tgt := 112) C ddM_page_45 (by decide) (by decide) rfl rfl ?_
      refine zz_aload_n C 1 ddM_page_112 rfl rfl ?_
      refine zz_iload_n C 2 ddM_page_113 rfl rfl ?_
      obtain ⟨h11, h⟩ := gdN h
      obtain ⟨q10, hq10, h⟩ := bindN h
      refine zz_callV0 (As := [.int v1]) C ddM_page_114 wd_1386 my_M_usedOf mv_M_usedOf ⟨_, rfl, rfl⟩ (xM_usedOf hG (d - 1) (by omega) hq10) (by omega) h11 rfl rfl (Nat.le_of_ble_eq_true rfl) ?_
      obtain rfl := Option.some.inj h
      exact zz_iret C E ddM_page_117
    replace h := iteF h hs45_3
    have ths45_0 := lv_neT (a := 0) hs45_0 (by decide)
    have ths45_1 := lv_neT (a := 1) hs45_1 (by decide)
    have ths45_2 := lv_neT (a := 2) hs45_2 (by decide)
    have ths45_3 := lv_neT (a := 3) hs45_3 (by decide)
    refine zz_tableOut (tgt := 118) C ddM_page_45 (by omega) rfl ?_
    refine zz_aload_n C 1 ddM_page_118 rfl rfl ?_
    obtain ⟨h12, h⟩ := gdN h
    obtain ⟨h13, h⟩ := gdN h
    refine zz_getr C ddM_page_119 fl_M_31 rfl h12 (of_decide_eq_true h13) ?_
    refine zz_iload_n C 2 ddM_page_122 rfl rfl ?_
    refine zz_iload_n C 3 ddM_page_123 rfl rfl ?_
    refine zz_iconst (v := 4) C ddM_page_124 (by decide) ?_
    refine zz_isub C ddM_page_125 ?_
    obtain ⟨q14, hq14, h⟩ := bindN h
    refine zz_callS0 (As := [.int v1, .int (v2 - 4)]) C ddM_page_126 wd_1398 my_M_listAt mv_M_listAt (xM_listAt hG (d - 1) (by omega) hq14) (by omega) rfl rfl (Nat.le_of_ble_eq_true rfl) ?_
    obtain ⟨h15, h⟩ := gdN h
    refine zz_iaload C ddM_page_129 h15 ?_
    obtain rfl := Option.some.inj h
    exact zz_iret C E ddM_page_130
  · replace h := iteT h hc
    refine zz_iconst (v := 0) C ddM_page_35 (by decide) ?_
    obtain rfl := Option.some.inj h
    exact zz_iret C E ddM_page_36
set_option maxHeartbeats 2000000 in
theorem zBM_page_23 {G : GXM} {X : CxM} (hG : GokM G) (C : CoM G X cM_page "HomeFreedModel") (N : mLM X = 4) {d : Nat} (hD : dpM X = d) (hd : 3 ≤ d)  {q : Int32 × Mem} (E : EnM G X (some .int) (some (.int q.1)) q.2 0 0) {v0 : Nat} {v1 : Int32} {v2 : Int32} {w0 : Nat} {M : Mem} (h : BM_page_23 v0 v1 v2 w0 M = some q) : ZM G X 23 [(0, .ref v0), (1, .int v1), (2, .int v2)] [.ref w0] M 0 0 := by
  unfold BM_page_23 at h
  refine zz_iconst (v := 1) C ddM_page_23 (by decide) ?_
  exact zBM_page_24 hG C N hD hd E h
set_option maxHeartbeats 2000000 in
theorem xM_page {G : GXM} {l : Launch} (hG : GokM G) (d : Nat) (hd : 3 ≤ d) {v0 : Nat} {v1 : Int32} {v2 : Int32} {M : Mem} {q : Int32 × Mem} (h : fM_page v0 v1 v2 M = some q) : ExM G l d 0 0 yM_page cM_page 4 (some .int) [.ref v0, .int v1, .int v2] M (some (.int q.1)) q.2 := by
  refine ex_of hG (by decide) (Nat.le_of_ble_eq_true rfl) ?_
  intro X hl C E N hD hn
  show ZM G X 0 [(0, .ref v0), (1, .int v1), (2, .int v2)] [] M 0 0
  unfold fM_page at h
  refine zz_aload_n C 0 ddM_page_0 rfl rfl ?_
  refine zz_aload_n C 0 ddM_page_1 rfl rfl ?_
  refine zz_iload_n C 1 ddM_page_2 rfl rfl ?_
  obtain ⟨h2, h⟩ := gdN h
  obtain ⟨q1, hq1, h⟩ := bindN h
  refine zz_callV0 (As := [.int v1]) C ddM_page_3 wd_1374 my_M_isPage mv_M_isPage ⟨_, rfl, rfl⟩ (xM_isPage hG (d - 1) (by omega) hq1) (by omega) h2 rfl rfl (Nat.le_of_ble_eq_true rfl) ?_
  refine zz_if_eq (tgt := 23) C ddM_page_6 rfl (fun hc => ?_) (fun hc => ?_)
  · replace h := iteT h hc
    exact zBM_page_23 hG C N hD hd E h
  · replace h := iteF h hc
    refine zz_iload_n C 2 ddM_page_9 rfl rfl ?_
    refine zz_iconst (v := 0) C ddM_page_10 (by decide) ?_
    refine zz_bipush (v := 6) C ddM_page_11 (by decide) ?_
    obtain ⟨q3, hq3, h⟩ := bindN h
    refine zz_callS0 (As := [.int v2, .int 0, .int 6]) C ddM_page_13 wd_1289 my_M_in mv_M_in (xM_in hG (d - 1) (by omega) hq3) (by omega) rfl rfl (Nat.le_of_ble_eq_true rfl) ?_
    refine zz_if_eq (tgt := 23) C ddM_page_16 rfl (fun hc => ?_) (fun hc => ?_)
    · replace h := iteT h hc
      exact zBM_page_23 hG C N hD hd E h
    · replace h := iteF h hc
      refine zz_iconst (v := 0) C ddM_page_19 (by decide) ?_
      refine zz_goto (tgt := 24) C ddM_page_20 rfl ?_
      exact zBM_page_24 hG C N hD hd E h
theorem ddM_list_0 : decode cM_list 0 = .ok (.aload_n 0, 1) := by decide +kernel
theorem ddM_list_1 : decode cM_list 1 = .ok (.iload_n 1, 1) := by decide +kernel
theorem ddM_list_2 : decode cM_list 2 = .ok (.invokevirtual 297, 3) := by decide +kernel
theorem ddM_list_5 : decode cM_list 5 = .ok (.ifCond .eq 49, 3) := by decide +kernel
theorem ddM_list_8 : decode cM_list 8 = .ok (.iload_n 2, 1) := by decide +kernel
theorem ddM_list_9 : decode cM_list 9 = .ok (.iconst 0, 1) := by decide +kernel
theorem ddM_list_10 : decode cM_list 10 = .ok (.iconst 2, 1) := by decide +kernel
theorem ddM_list_11 : decode cM_list 11 = .ok (.invokestatic 75, 3) := by decide +kernel
theorem ddM_list_14 : decode cM_list 14 = .ok (.ifCond .eq 40, 3) := by decide +kernel
theorem ddM_list_17 : decode cM_list 17 = .ok (.iload_n 3, 1) := by decide +kernel
theorem ddM_list_18 : decode cM_list 18 = .ok (.iconst 0, 1) := by decide +kernel
theorem ddM_list_19 : decode cM_list 19 = .ok (.aload_n 0, 1) := by decide +kernel
theorem ddM_list_20 : decode cM_list 20 = .ok (.getfield 31, 3) := by decide +kernel
theorem ddM_list_23 : decode cM_list 23 = .ok (.iload_n 1, 1) := by decide +kernel
theorem ddM_list_24 : decode cM_list 24 = .ok (.iload_n 2, 1) := by decide +kernel
theorem ddM_list_25 : decode cM_list 25 = .ok (.invokestatic 173, 3) := by decide +kernel
theorem ddM_list_28 : decode cM_list 28 = .ok (.iaload, 1) := by decide +kernel
theorem ddM_list_29 : decode cM_list 29 = .ok (.iconst 1, 1) := by decide +kernel
theorem ddM_list_30 : decode cM_list 30 = .ok (.isub, 1) := by decide +kernel
theorem ddM_list_31 : decode cM_list 31 = .ok (.invokestatic 75, 3) := by decide +kernel
theorem ddM_list_34 : decode cM_list 34 = .ok (.ifCond .eq 20, 3) := by decide +kernel
theorem ddM_list_37 : decode cM_list 37 = .ok (.aload_n 0, 1) := by decide +kernel
theorem ddM_list_38 : decode cM_list 38 = .ok (.getfield 31, 3) := by decide +kernel
theorem ddM_list_41 : decode cM_list 41 = .ok (.iload_n 1, 1) := by decide +kernel
theorem ddM_list_42 : decode cM_list 42 = .ok (.iload_n 2, 1) := by decide +kernel
theorem ddM_list_43 : decode cM_list 43 = .ok (.invokestatic 173, 3) := by decide +kernel
theorem ddM_list_46 : decode cM_list 46 = .ok (.iconst 1, 1) := by decide +kernel
theorem ddM_list_47 : decode cM_list 47 = .ok (.iadd, 1) := by decide +kernel
theorem ddM_list_48 : decode cM_list 48 = .ok (.iload_n 3, 1) := by decide +kernel
theorem ddM_list_49 : decode cM_list 49 = .ok (.iadd, 1) := by decide +kernel
theorem ddM_list_50 : decode cM_list 50 = .ok (.iaload, 1) := by decide +kernel
theorem ddM_list_51 : decode cM_list 51 = .ok (.goto 4, 3) := by decide +kernel
theorem ddM_list_54 : decode cM_list 54 = .ok (.iconst (-1), 1) := by decide +kernel
theorem ddM_list_55 : decode cM_list 55 = .ok (.ireturn, 1) := by decide +kernel
set_option maxHeartbeats 2000000 in
theorem zBM_list_55 {G : GXM} {X : CxM} (hG : GokM G) (C : CoM G X cM_list "HomeFreedModel") (N : mLM X = 4) {d : Nat} (hD : dpM X = d) (hd : 2 ≤ d)  {q : Int32 × Mem} (E : EnM G X (some .int) (some (.int q.1)) q.2 0 0) {w0 : Int32} {M : Mem} (h : BM_list_55 w0 M = some q) : ZM G X 55 [] [.int w0] M 0 0 := by
  unfold BM_list_55 at h
  obtain rfl := Option.some.inj h
  exact zz_iret C E ddM_list_55
set_option maxHeartbeats 2000000 in
theorem zBM_list_54 {G : GXM} {X : CxM} (hG : GokM G) (C : CoM G X cM_list "HomeFreedModel") (N : mLM X = 4) {d : Nat} (hD : dpM X = d) (hd : 2 ≤ d)  {q : Int32 × Mem} (E : EnM G X (some .int) (some (.int q.1)) q.2 0 0) {M : Mem} (h : BM_list_54 M = some q) : ZM G X 54 [] [] M 0 0 := by
  unfold BM_list_54 at h
  refine zz_iconst (v := (-1)) C ddM_list_54 (by decide) ?_
  exact zBM_list_55 hG C N hD hd E h
set_option maxHeartbeats 2000000 in
theorem xM_list {G : GXM} {l : Launch} (hG : GokM G) (d : Nat) (hd : 2 ≤ d) {v0 : Nat} {v1 : Int32} {v2 : Int32} {v3 : Int32} {M : Mem} {q : Int32 × Mem} (h : fM_list v0 v1 v2 v3 M = some q) : ExM G l d 0 0 yM_list cM_list 4 (some .int) [.ref v0, .int v1, .int v2, .int v3] M (some (.int q.1)) q.2 := by
  refine ex_of hG (by decide) (Nat.le_of_ble_eq_true rfl) ?_
  intro X hl C E N hD hn
  show ZM G X 0 [(0, .ref v0), (1, .int v1), (2, .int v2), (3, .int v3)] [] M 0 0
  unfold fM_list at h
  refine zz_aload_n C 0 ddM_list_0 rfl rfl ?_
  refine zz_iload_n C 1 ddM_list_1 rfl rfl ?_
  obtain ⟨h2, h⟩ := gdN h
  obtain ⟨q1, hq1, h⟩ := bindN h
  refine zz_callV0 (As := [.int v1]) C ddM_list_2 wd_1374 my_M_isPage mv_M_isPage ⟨_, rfl, rfl⟩ (xM_isPage hG (d - 1) (by omega) hq1) (by omega) h2 rfl rfl (Nat.le_of_ble_eq_true rfl) ?_
  refine zz_if_eq (tgt := 54) C ddM_list_5 rfl (fun hc => ?_) (fun hc => ?_)
  · replace h := iteT h hc
    refine zz_loc (L1 := []) [] rfl ?_
    exact zBM_list_54 hG C N hD hd E h
  · replace h := iteF h hc
    refine zz_iload_n C 2 ddM_list_8 rfl rfl ?_
    refine zz_iconst (v := 0) C ddM_list_9 (by decide) ?_
    refine zz_iconst (v := 2) C ddM_list_10 (by decide) ?_
    obtain ⟨q3, hq3, h⟩ := bindN h
    refine zz_callS0 (As := [.int v2, .int 0, .int 2]) C ddM_list_11 wd_1289 my_M_in mv_M_in (xM_in hG (d - 1) (by omega) hq3) (by omega) rfl rfl (Nat.le_of_ble_eq_true rfl) ?_
    refine zz_if_eq (tgt := 54) C ddM_list_14 rfl (fun hc => ?_) (fun hc => ?_)
    · replace h := iteT h hc
      refine zz_loc (L1 := []) [] rfl ?_
      exact zBM_list_54 hG C N hD hd E h
    · replace h := iteF h hc
      refine zz_iload_n C 3 ddM_list_17 rfl rfl ?_
      refine zz_iconst (v := 0) C ddM_list_18 (by decide) ?_
      refine zz_aload_n C 0 ddM_list_19 rfl rfl ?_
      obtain ⟨h4, h⟩ := gdN h
      obtain ⟨h5, h⟩ := gdN h
      refine zz_getr C ddM_list_20 fl_M_31 rfl h4 (of_decide_eq_true h5) ?_
      refine zz_iload_n C 1 ddM_list_23 rfl rfl ?_
      refine zz_iload_n C 2 ddM_list_24 rfl rfl ?_
      obtain ⟨q6, hq6, h⟩ := bindN h
      refine zz_callS0 (As := [.int v1, .int v2]) C ddM_list_25 wd_1398 my_M_listAt mv_M_listAt (xM_listAt hG (d - 1) (by omega) hq6) (by omega) rfl rfl (Nat.le_of_ble_eq_true rfl) ?_
      obtain ⟨h7, h⟩ := gdN h
      refine zz_iaload C ddM_list_28 h7 ?_
      refine zz_iconst (v := 1) C ddM_list_29 (by decide) ?_
      refine zz_isub C ddM_list_30 ?_
      obtain ⟨q8, hq8, h⟩ := bindN h
      refine zz_callS0 (As := [.int v3, .int 0, .int ((giM q6.2 (grM q3.2 v0 15) (Int32.toNatClampNeg q6.1)) - 1)]) C ddM_list_31 wd_1289 my_M_in mv_M_in (xM_in hG (d - 1) (by omega) hq8) (by omega) rfl rfl (Nat.le_of_ble_eq_true rfl) ?_
      refine zz_if_eq (tgt := 54) C ddM_list_34 rfl (fun hc => ?_) (fun hc => ?_)
      · replace h := iteT h hc
        refine zz_loc (L1 := []) [] rfl ?_
        exact zBM_list_54 hG C N hD hd E h
      · replace h := iteF h hc
        refine zz_aload_n C 0 ddM_list_37 rfl rfl ?_
        obtain ⟨h9, h⟩ := gdN h
        obtain ⟨h10, h⟩ := gdN h
        refine zz_getr C ddM_list_38 fl_M_31 rfl h9 (of_decide_eq_true h10) ?_
        refine zz_iload_n C 1 ddM_list_41 rfl rfl ?_
        refine zz_iload_n C 2 ddM_list_42 rfl rfl ?_
        obtain ⟨q11, hq11, h⟩ := bindN h
        refine zz_callS0 (As := [.int v1, .int v2]) C ddM_list_43 wd_1398 my_M_listAt mv_M_listAt (xM_listAt hG (d - 1) (by omega) hq11) (by omega) rfl rfl (Nat.le_of_ble_eq_true rfl) ?_
        refine zz_iconst (v := 1) C ddM_list_46 (by decide) ?_
        refine zz_iadd C ddM_list_47 ?_
        refine zz_iload_n C 3 ddM_list_48 rfl rfl ?_
        refine zz_iadd C ddM_list_49 ?_
        obtain ⟨h12, h⟩ := gdN h
        refine zz_iaload C ddM_list_50 h12 ?_
        refine zz_goto (tgt := 55) C ddM_list_51 rfl ?_
        refine zz_loc (L1 := []) [] rfl ?_
        exact zBM_list_55 hG C N hD hd E h
theorem ddM_isThread_0 : decode cM_isThread 0 = .ok (.aload_n 0, 1) := by decide +kernel
theorem ddM_isThread_1 : decode cM_isThread 1 = .ok (.invokevirtual 160, 3) := by decide +kernel
theorem ddM_isThread_4 : decode cM_isThread 4 = .ok (.ifCond .eq 23, 3) := by decide +kernel
theorem ddM_isThread_7 : decode cM_isThread 7 = .ok (.iload_n 1, 1) := by decide +kernel
theorem ddM_isThread_8 : decode cM_isThread 8 = .ok (.iconst 0, 1) := by decide +kernel
theorem ddM_isThread_9 : decode cM_isThread 9 = .ok (.aload_n 0, 1) := by decide +kernel
theorem ddM_isThread_10 : decode cM_isThread 10 = .ok (.getfield 19, 3) := by decide +kernel
theorem ddM_isThread_13 : decode cM_isThread 13 = .ok (.iconst 0, 1) := by decide +kernel
theorem ddM_isThread_14 : decode cM_isThread 14 = .ok (.iaload, 1) := by decide +kernel
theorem ddM_isThread_15 : decode cM_isThread 15 = .ok (.iconst 1, 1) := by decide +kernel
theorem ddM_isThread_16 : decode cM_isThread 16 = .ok (.isub, 1) := by decide +kernel
theorem ddM_isThread_17 : decode cM_isThread 17 = .ok (.invokestatic 75, 3) := by decide +kernel
theorem ddM_isThread_20 : decode cM_isThread 20 = .ok (.ifCond .eq 7, 3) := by decide +kernel
theorem ddM_isThread_23 : decode cM_isThread 23 = .ok (.iconst 1, 1) := by decide +kernel
theorem ddM_isThread_24 : decode cM_isThread 24 = .ok (.goto 4, 3) := by decide +kernel
theorem ddM_isThread_27 : decode cM_isThread 27 = .ok (.iconst 0, 1) := by decide +kernel
theorem ddM_isThread_28 : decode cM_isThread 28 = .ok (.ireturn, 1) := by decide +kernel
set_option maxHeartbeats 2000000 in
theorem zBM_isThread_28 {G : GXM} {X : CxM} (hG : GokM G) (C : CoM G X cM_isThread "HomeFreedModel") (N : mLM X = 2) {d : Nat} (hD : dpM X = d) (hd : 1 ≤ d)  {q : Int32 × Mem} (E : EnM G X (some .boolean) (some (.int q.1)) q.2 0 0) {w0 : Int32} {M : Mem} (h : BM_isThread_28 w0 M = some q) : ZM G X 28 [] [.int w0] M 0 0 := by
  unfold BM_isThread_28 at h
  obtain ⟨h1, h⟩ := gdN h
  obtain rfl := Option.some.inj h
  exact zz_zret C (of_decide_eq_true h1) E ddM_isThread_28
set_option maxHeartbeats 2000000 in
theorem zBM_isThread_27 {G : GXM} {X : CxM} (hG : GokM G) (C : CoM G X cM_isThread "HomeFreedModel") (N : mLM X = 2) {d : Nat} (hD : dpM X = d) (hd : 1 ≤ d)  {q : Int32 × Mem} (E : EnM G X (some .boolean) (some (.int q.1)) q.2 0 0) {M : Mem} (h : BM_isThread_27 M = some q) : ZM G X 27 [] [] M 0 0 := by
  unfold BM_isThread_27 at h
  refine zz_iconst (v := 0) C ddM_isThread_27 (by decide) ?_
  exact zBM_isThread_28 hG C N hD hd E h
set_option maxHeartbeats 2000000 in
theorem xM_isThread {G : GXM} {l : Launch} (hG : GokM G) (d : Nat) (hd : 1 ≤ d) {v0 : Nat} {v1 : Int32} {M : Mem} {q : Int32 × Mem} (h : fM_isThread v0 v1 M = some q) : ExM G l d 0 0 yM_isThread cM_isThread 2 (some .boolean) [.ref v0, .int v1] M (some (.int q.1)) q.2 := by
  refine ex_of hG (by decide) (Nat.le_of_ble_eq_true rfl) ?_
  intro X hl C E N hD hn
  show ZM G X 0 [(0, .ref v0), (1, .int v1)] [] M 0 0
  unfold fM_isThread at h
  refine zz_aload_n C 0 ddM_isThread_0 rfl rfl ?_
  obtain ⟨h2, h⟩ := gdN h
  obtain ⟨q1, hq1, h⟩ := bindN h
  refine zz_callV0 (As := []) C ddM_isThread_1 wd_1362 my_M_isArena mv_M_isArena ⟨_, rfl, rfl⟩ (xM_isArena hG (d - 1) (by omega) hq1) (by omega) h2 rfl rfl (Nat.le_of_ble_eq_true rfl) ?_
  refine zz_if_eq (tgt := 27) C ddM_isThread_4 rfl (fun hc => ?_) (fun hc => ?_)
  · replace h := iteT h hc
    refine zz_loc (L1 := []) [] rfl ?_
    exact zBM_isThread_27 hG C N hD hd E h
  · replace h := iteF h hc
    refine zz_iload_n C 1 ddM_isThread_7 rfl rfl ?_
    refine zz_iconst (v := 0) C ddM_isThread_8 (by decide) ?_
    refine zz_aload_n C 0 ddM_isThread_9 rfl rfl ?_
    obtain ⟨h3, h⟩ := gdN h
    obtain ⟨h4, h⟩ := gdN h
    refine zz_getr C ddM_isThread_10 fl_M_19 rfl h3 (of_decide_eq_true h4) ?_
    refine zz_iconst (v := 0) C ddM_isThread_13 (by decide) ?_
    obtain ⟨h5, h⟩ := gdN h
    refine zz_iaload C ddM_isThread_14 h5 ?_
    refine zz_iconst (v := 1) C ddM_isThread_15 (by decide) ?_
    refine zz_isub C ddM_isThread_16 ?_
    obtain ⟨q6, hq6, h⟩ := bindN h
    refine zz_callS0 (As := [.int v1, .int 0, .int ((giM q1.2 (grM q1.2 v0 8) (Int32.toNatClampNeg 0)) - 1)]) C ddM_isThread_17 wd_1289 my_M_in mv_M_in (xM_in hG (d - 1) (by omega) hq6) (by omega) rfl rfl (Nat.le_of_ble_eq_true rfl) ?_
    refine zz_if_eq (tgt := 27) C ddM_isThread_20 rfl (fun hc => ?_) (fun hc => ?_)
    · replace h := iteT h hc
      refine zz_loc (L1 := []) [] rfl ?_
      exact zBM_isThread_27 hG C N hD hd E h
    · replace h := iteF h hc
      refine zz_iconst (v := 1) C ddM_isThread_23 (by decide) ?_
      refine zz_goto (tgt := 28) C ddM_isThread_24 rfl ?_
      refine zz_loc (L1 := []) [] rfl ?_
      exact zBM_isThread_28 hG C N hD hd E h
theorem ddM_isOf_0 : decode cM_isOf 0 = .ok (.aload_n 0, 1) := by decide +kernel
theorem ddM_isOf_1 : decode cM_isOf 1 = .ok (.iload_n 1, 1) := by decide +kernel
theorem ddM_isOf_2 : decode cM_isOf 2 = .ok (.invokevirtual 241, 3) := by decide +kernel
theorem ddM_isOf_5 : decode cM_isOf 5 = .ok (.ifCond .eq 17, 3) := by decide +kernel
theorem ddM_isOf_8 : decode cM_isOf 8 = .ok (.aload_n 0, 1) := by decide +kernel
theorem ddM_isOf_9 : decode cM_isOf 9 = .ok (.iload_n 1, 1) := by decide +kernel
theorem ddM_isOf_10 : decode cM_isOf 10 = .ok (.iconst 1, 1) := by decide +kernel
theorem ddM_isOf_11 : decode cM_isOf 11 = .ok (.invokevirtual 170, 3) := by decide +kernel
theorem ddM_isOf_14 : decode cM_isOf 14 = .ok (.iload_n 2, 1) := by decide +kernel
theorem ddM_isOf_15 : decode cM_isOf 15 = .ok (.if_icmp .ne 7, 3) := by decide +kernel
theorem ddM_isOf_18 : decode cM_isOf 18 = .ok (.iconst 1, 1) := by decide +kernel
theorem ddM_isOf_19 : decode cM_isOf 19 = .ok (.goto 4, 3) := by decide +kernel
theorem ddM_isOf_22 : decode cM_isOf 22 = .ok (.iconst 0, 1) := by decide +kernel
theorem ddM_isOf_23 : decode cM_isOf 23 = .ok (.ireturn, 1) := by decide +kernel
set_option maxHeartbeats 2000000 in
theorem zBM_isOf_23 {G : GXM} {X : CxM} (hG : GokM G) (C : CoM G X cM_isOf "HomeFreedModel") (N : mLM X = 3) {d : Nat} (hD : dpM X = d) (hd : 2 ≤ d)  {q : Int32 × Mem} (E : EnM G X (some .boolean) (some (.int q.1)) q.2 0 0) {w0 : Int32} {M : Mem} (h : BM_isOf_23 w0 M = some q) : ZM G X 23 [] [.int w0] M 0 0 := by
  unfold BM_isOf_23 at h
  obtain ⟨h1, h⟩ := gdN h
  obtain rfl := Option.some.inj h
  exact zz_zret C (of_decide_eq_true h1) E ddM_isOf_23
set_option maxHeartbeats 2000000 in
theorem zBM_isOf_22 {G : GXM} {X : CxM} (hG : GokM G) (C : CoM G X cM_isOf "HomeFreedModel") (N : mLM X = 3) {d : Nat} (hD : dpM X = d) (hd : 2 ≤ d)  {q : Int32 × Mem} (E : EnM G X (some .boolean) (some (.int q.1)) q.2 0 0) {M : Mem} (h : BM_isOf_22 M = some q) : ZM G X 22 [] [] M 0 0 := by
  unfold BM_isOf_22 at h
  refine zz_iconst (v := 0) C ddM_isOf_22 (by decide) ?_
  exact zBM_isOf_23 hG C N hD hd E h
set_option maxHeartbeats 2000000 in
theorem xM_isOf {G : GXM} {l : Launch} (hG : GokM G) (d : Nat) (hd : 2 ≤ d) {v0 : Nat} {v1 : Int32} {v2 : Int32} {M : Mem} {q : Int32 × Mem} (h : fM_isOf v0 v1 v2 M = some q) : ExM G l d 0 0 yM_isOf cM_isOf 3 (some .boolean) [.ref v0, .int v1, .int v2] M (some (.int q.1)) q.2 := by
  refine ex_of hG (by decide) (Nat.le_of_ble_eq_true rfl) ?_
  intro X hl C E N hD hn
  show ZM G X 0 [(0, .ref v0), (1, .int v1), (2, .int v2)] [] M 0 0
  unfold fM_isOf at h
  refine zz_aload_n C 0 ddM_isOf_0 rfl rfl ?_
  refine zz_iload_n C 1 ddM_isOf_1 rfl rfl ?_
  obtain ⟨h2, h⟩ := gdN h
  obtain ⟨q1, hq1, h⟩ := bindN h
  refine zz_callV0 (As := [.int v1]) C ddM_isOf_2 wd_1382 my_M_isOwned mv_M_isOwned ⟨_, rfl, rfl⟩ (xM_isOwned hG (d - 1) (by omega) hq1) (by omega) h2 rfl rfl (Nat.le_of_ble_eq_true rfl) ?_
  refine zz_if_eq (tgt := 22) C ddM_isOf_5 rfl (fun hc => ?_) (fun hc => ?_)
  · replace h := iteT h hc
    refine zz_loc (L1 := []) [] rfl ?_
    exact zBM_isOf_22 hG C N hD hd E h
  · replace h := iteF h hc
    refine zz_aload_n C 0 ddM_isOf_8 rfl rfl ?_
    refine zz_iload_n C 1 ddM_isOf_9 rfl rfl ?_
    refine zz_iconst (v := 1) C ddM_isOf_10 (by decide) ?_
    obtain ⟨h4, h⟩ := gdN h
    obtain ⟨q3, hq3, h⟩ := bindN h
    refine zz_callV0 (As := [.int v1, .int 1]) C ddM_isOf_11 wd_1378 my_M_of mv_M_of ⟨_, rfl, rfl⟩ (xM_of hG (d - 1) (by omega) hq3) (by omega) h4 rfl rfl (Nat.le_of_ble_eq_true rfl) ?_
    refine zz_iload_n C 2 ddM_isOf_14 rfl rfl ?_
    refine zz_icmp_ne (tgt := 22) C ddM_isOf_15 rfl (fun hc => ?_) (fun hc => ?_)
    · replace h := iteF h hc
      refine zz_loc (L1 := []) [] rfl ?_
      exact zBM_isOf_22 hG C N hD hd E h
    · replace h := iteT h hc
      refine zz_iconst (v := 1) C ddM_isOf_18 (by decide) ?_
      refine zz_goto (tgt := 23) C ddM_isOf_19 rfl ?_
      refine zz_loc (L1 := []) [] rfl ?_
      exact zBM_isOf_23 hG C N hD hd E h
theorem ddM_ownedBy_0 : decode cM_ownedBy 0 = .ok (.iconst 0, 1) := by decide +kernel
theorem ddM_ownedBy_1 : decode cM_ownedBy 1 = .ok (.istore_n 2, 1) := by decide +kernel
theorem ddM_ownedBy_2 : decode cM_ownedBy 2 = .ok (.iconst 0, 1) := by decide +kernel
theorem ddM_ownedBy_3 : decode cM_ownedBy 3 = .ok (.istore_n 3, 1) := by decide +kernel
theorem ddM_ownedBy_4 : decode cM_ownedBy 4 = .ok (.iload_n 3, 1) := by decide +kernel
theorem ddM_ownedBy_5 : decode cM_ownedBy 5 = .ok (.aload_n 0, 1) := by decide +kernel
theorem ddM_ownedBy_6 : decode cM_ownedBy 6 = .ok (.getfield 19, 3) := by decide +kernel
theorem ddM_ownedBy_9 : decode cM_ownedBy 9 = .ok (.iconst 1, 1) := by decide +kernel
theorem ddM_ownedBy_10 : decode cM_ownedBy 10 = .ok (.iaload, 1) := by decide +kernel
theorem ddM_ownedBy_11 : decode cM_ownedBy 11 = .ok (.if_icmp .ge 26, 3) := by decide +kernel
theorem ddM_ownedBy_14 : decode cM_ownedBy 14 = .ok (.iload_n 2, 1) := by decide +kernel
theorem ddM_ownedBy_15 : decode cM_ownedBy 15 = .ok (.aload_n 0, 1) := by decide +kernel
theorem ddM_ownedBy_16 : decode cM_ownedBy 16 = .ok (.iload_n 3, 1) := by decide +kernel
theorem ddM_ownedBy_17 : decode cM_ownedBy 17 = .ok (.iload_n 1, 1) := by decide +kernel
theorem ddM_ownedBy_18 : decode cM_ownedBy 18 = .ok (.invokevirtual 253, 3) := by decide +kernel
theorem ddM_ownedBy_21 : decode cM_ownedBy 21 = .ok (.ifCond .eq 7, 3) := by decide +kernel
theorem ddM_ownedBy_24 : decode cM_ownedBy 24 = .ok (.iconst 1, 1) := by decide +kernel
theorem ddM_ownedBy_25 : decode cM_ownedBy 25 = .ok (.goto 4, 3) := by decide +kernel
theorem ddM_ownedBy_28 : decode cM_ownedBy 28 = .ok (.iconst 0, 1) := by decide +kernel
theorem ddM_ownedBy_29 : decode cM_ownedBy 29 = .ok (.iadd, 1) := by decide +kernel
theorem ddM_ownedBy_30 : decode cM_ownedBy 30 = .ok (.istore_n 2, 1) := by decide +kernel
theorem ddM_ownedBy_31 : decode cM_ownedBy 31 = .ok (.iinc 3 1, 3) := by decide +kernel
theorem ddM_ownedBy_34 : decode cM_ownedBy 34 = .ok (.goto (-30), 3) := by decide +kernel
theorem ddM_ownedBy_37 : decode cM_ownedBy 37 = .ok (.iload_n 2, 1) := by decide +kernel
theorem ddM_ownedBy_38 : decode cM_ownedBy 38 = .ok (.ireturn, 1) := by decide +kernel
set_option maxHeartbeats 2000000 in
theorem zBM_ownedBy_29 {G : GXM} {X : CxM} (hG : GokM G) (C : CoM G X cM_ownedBy "HomeFreedModel") (N : mLM X = 4) {d : Nat} (hD : dpM X = d) (hd : 3 ≤ d) {v0 : Nat} {v1 : Int32} {K : Nat → Int32 → Int32 → Int32 → Mem → Option ((Int32 × Mem))} {q : (Int32 × Mem)} (hK : ∀ (v2 : Int32) (v3 : Int32) (M : Mem), K v0 v1 v2 v3 M = some q → ZM G X 4 [(0, .ref v0), (1, .int v1), (2, .int v2), (3, .int v3)] [] M 0 0) (hr : ∀ r : Int32 × Mem, q =  r → EnM G X (some .int) (some (.int r.1)) r.2 0 0) {v3 : Int32} {w0 : Int32} {w1 : Int32} {M : Mem} (h : BM_ownedBy_29 K v0 v1 v3 w0 w1 M = some q) : ZM G X 29 [(0, .ref v0), (1, .int v1), (3, .int v3)] [.int w1, .int w0] M 0 0 := by
  unfold BM_ownedBy_29 at h
  refine zz_iadd C ddM_ownedBy_29 ?_
  refine zz_istore_n (L1 := [(2, .int (w0 + w1)), (0, .ref v0), (1, .int v1), (3, .int v3)]) C ddM_ownedBy_30 rfl N (by decide) rfl ?_
  refine zz_iinc (v := v3 + 1) (L1 := [(3, .int (v3 + 1)), (2, .int (w0 + w1)), (0, .ref v0), (1, .int v1)]) C 3 ddM_ownedBy_31 rfl rfl N (by decide) rfl ?_
  refine zz_goto (tgt := 4) C ddM_ownedBy_34 rfl ?_
  refine zz_loc (L1 := [(0, .ref v0), (1, .int v1), (2, .int (w0 + w1)), (3, .int (v3 + 1))]) [2, 3, 1, 0] rfl ?_
  exact hK _ _ _ h
set_option maxHeartbeats 2000000 in
theorem zBM_ownedBy_4 {G : GXM} {X : CxM} (hG : GokM G) (C : CoM G X cM_ownedBy "HomeFreedModel") (N : mLM X = 4) {d : Nat} (hD : dpM X = d) (hd : 3 ≤ d) {v0 : Nat} {v1 : Int32} {K : Nat → Int32 → Int32 → Int32 → Mem → Option ((Int32 × Mem))} {q : (Int32 × Mem)} (hK : ∀ (v2 : Int32) (v3 : Int32) (M : Mem), K v0 v1 v2 v3 M = some q → ZM G X 4 [(0, .ref v0), (1, .int v1), (2, .int v2), (3, .int v3)] [] M 0 0) (hr : ∀ r : Int32 × Mem, q =  r → EnM G X (some .int) (some (.int r.1)) r.2 0 0) {v2 : Int32} {v3 : Int32} {M : Mem} (h : BM_ownedBy_4 K v0 v1 v2 v3 M = some q) : ZM G X 4 [(0, .ref v0), (1, .int v1), (2, .int v2), (3, .int v3)] [] M 0 0 := by
  unfold BM_ownedBy_4 at h
  refine zz_iload_n C 3 ddM_ownedBy_4 rfl rfl ?_
  refine zz_aload_n C 0 ddM_ownedBy_5 rfl rfl ?_
  obtain ⟨h1, h⟩ := gdN h
  obtain ⟨h2, h⟩ := gdN h
  refine zz_getr C ddM_ownedBy_6 fl_M_19 rfl h1 (of_decide_eq_true h2) ?_
  refine zz_iconst (v := 1) C ddM_ownedBy_9 (by decide) ?_
  obtain ⟨h3, h⟩ := gdN h
  refine zz_iaload C ddM_ownedBy_10 h3 ?_
  refine zz_icmp_ge (tgt := 37) C ddM_ownedBy_11 rfl (fun hc => ?_) (fun hc => ?_)
  · replace h := iteT h hc
    refine zz_iload_n C 2 ddM_ownedBy_37 rfl rfl ?_
    exact zz_iret C (hr _ (Option.some.inj h).symm) ddM_ownedBy_38
  · replace h := iteF h hc
    refine zz_iload_n C 2 ddM_ownedBy_14 rfl rfl ?_
    refine zz_aload_n C 0 ddM_ownedBy_15 rfl rfl ?_
    refine zz_iload_n C 3 ddM_ownedBy_16 rfl rfl ?_
    refine zz_iload_n C 1 ddM_ownedBy_17 rfl rfl ?_
    obtain ⟨q4, hq4, h⟩ := bindN h
    refine zz_callV0 (As := [.int v3, .int v1]) C ddM_ownedBy_18 wd_1417 my_M_isOf mv_M_isOf ⟨_, rfl, rfl⟩ (xM_isOf hG (d - 1) (by omega) hq4) (by omega) h1 rfl rfl (Nat.le_of_ble_eq_true rfl) ?_
    refine zz_if_eq (tgt := 28) C ddM_ownedBy_21 rfl (fun hc => ?_) (fun hc => ?_)
    · replace h := iteT h hc
      refine zz_iconst (v := 0) C ddM_ownedBy_28 (by decide) ?_
      refine zz_loc (L1 := [(0, .ref v0), (1, .int v1), (3, .int v3)]) [0, 1, 3] rfl ?_
      exact zBM_ownedBy_29 hG C N hD hd hK hr h
    · replace h := iteF h hc
      refine zz_iconst (v := 1) C ddM_ownedBy_24 (by decide) ?_
      refine zz_goto (tgt := 29) C ddM_ownedBy_25 rfl ?_
      refine zz_loc (L1 := [(0, .ref v0), (1, .int v1), (3, .int v3)]) [0, 1, 3] rfl ?_
      exact zBM_ownedBy_29 hG C N hD hd hK hr h
set_option maxHeartbeats 2000000 in
theorem zLM_ownedBy_4 {G : GXM} {X : CxM} (hG : GokM G) (C : CoM G X cM_ownedBy "HomeFreedModel") (N : mLM X = 4) {d : Nat} (hD : dpM X = d) (hd : 3 ≤ d) {v0 : Nat} {v1 : Int32} {q : (Int32 × Mem)} : ∀ (f : Nat) (v2 : Int32) (v3 : Int32) (M : Mem), LM_ownedBy_4 f v0 v1 v2 v3 M = some q → (hr : ∀ r : Int32 × Mem, q =  r → EnM G X (some .int) (some (.int r.1)) r.2 0 0) → ZM G X 4 [(0, .ref v0), (1, .int v1), (2, .int v2), (3, .int v3)] [] M 0 0 := by
  intro f
  induction f with
  | zero => intro v2 v3 M h; cases h
  | succ f ih =>
    intro v2 v3 M h hr
    exact zBM_ownedBy_4 hG C N hD hd (K := LM_ownedBy_4 f) (q := q) (fun v2 v3 M h => ih v2 v3 M h hr) hr h
set_option maxHeartbeats 2000000 in
theorem xM_ownedBy {G : GXM} {l : Launch} (hG : GokM G) (d : Nat) (hd : 3 ≤ d) {v0 : Nat} {v1 : Int32} {M : Mem} {q : Int32 × Mem} (h : fM_ownedBy v0 v1 M = some q) : ExM G l d 0 0 yM_ownedBy cM_ownedBy 4 (some .int) [.ref v0, .int v1] M (some (.int q.1)) q.2 := by
  refine ex_of hG (by decide) (Nat.le_of_ble_eq_true rfl) ?_
  intro X hl C E N hD hn
  show ZM G X 0 [(3, .int v3), (2, .int v2), (0, .ref v0), (1, .int v1)] [] M 0 0
  unfold fM_ownedBy at h
  refine zz_iconst (v := 0) C ddM_ownedBy_0 (by decide) ?_
  refine zz_istore_n (L1 := [(2, .int 0), (0, .ref v0), (1, .int v1)]) C ddM_ownedBy_1 rfl N (by decide) rfl ?_
  refine zz_iconst (v := 0) C ddM_ownedBy_2 (by decide) ?_
  refine zz_istore_n (L1 := [(3, .int 0), (2, .int 0), (0, .ref v0), (1, .int v1)]) C ddM_ownedBy_3 rfl N (by decide) rfl ?_
  refine zz_loc (L1 := [(0, .ref v0), (1, .int v1), (2, .int 0), (3, .int 0)]) [2, 3, 1, 0] rfl ?_
  obtain ⟨q1, hq1, h⟩ := bindN h
  refine zLM_ownedBy_4 hG C N hD hd 1000000 _ _ _ hq1 ?_
  · intro r2 eq1; subst eq1
    obtain rfl := Option.some.inj h
    exact E
theorem ddM_boxAt_0 : decode cM_boxAt 0 = .ok (.sipush 3064, 3) := by decide +kernel
theorem ddM_boxAt_3 : decode cM_boxAt 3 = .ok (.bipush 10, 2) := by decide +kernel
theorem ddM_boxAt_5 : decode cM_boxAt 5 = .ok (.bipush 16, 2) := by decide +kernel
theorem ddM_boxAt_7 : decode cM_boxAt 7 = .ok (.iload_n 0, 1) := by decide +kernel
theorem ddM_boxAt_8 : decode cM_boxAt 8 = .ok (.imul, 1) := by decide +kernel
theorem ddM_boxAt_9 : decode cM_boxAt 9 = .ok (.iload_n 1, 1) := by decide +kernel
theorem ddM_boxAt_10 : decode cM_boxAt 10 = .ok (.iadd, 1) := by decide +kernel
theorem ddM_boxAt_11 : decode cM_boxAt 11 = .ok (.imul, 1) := by decide +kernel
theorem ddM_boxAt_12 : decode cM_boxAt 12 = .ok (.iadd, 1) := by decide +kernel
theorem ddM_boxAt_13 : decode cM_boxAt 13 = .ok (.ireturn, 1) := by decide +kernel
set_option maxHeartbeats 2000000 in
theorem xM_boxAt {G : GXM} {l : Launch} (hG : GokM G) (d : Nat) (hd : 0 ≤ d) {v0 : Int32} {v1 : Int32} {M : Mem} {q : Int32 × Mem} (h : fM_boxAt v0 v1 M = some q) : ExM G l d 0 0 yM_boxAt cM_boxAt 2 (some .int) [.int v0, .int v1] M (some (.int q.1)) q.2 := by
  refine ex_of hG (by decide) (Nat.le_of_ble_eq_true rfl) ?_
  intro X hl C E N hD hn
  show ZM G X 0 [(0, .int v0), (1, .int v1)] [] M 0 0
  unfold fM_boxAt at h
  refine zz_sipush (v := 3064) C ddM_boxAt_0 (by decide) ?_
  refine zz_bipush (v := 10) C ddM_boxAt_3 (by decide) ?_
  refine zz_bipush (v := 16) C ddM_boxAt_5 (by decide) ?_
  refine zz_iload_n C 0 ddM_boxAt_7 rfl rfl ?_
  refine zz_imul C ddM_boxAt_8 ?_
  refine zz_iload_n C 1 ddM_boxAt_9 rfl rfl ?_
  refine zz_iadd C ddM_boxAt_10 ?_
  refine zz_imul C ddM_boxAt_11 ?_
  refine zz_iadd C ddM_boxAt_12 ?_
  obtain rfl := Option.some.inj h
  exact zz_iret C E ddM_boxAt_13
theorem ddM_boxedBy_0 : decode cM_boxedBy 0 = .ok (.iconst 0, 1) := by decide +kernel
theorem ddM_boxedBy_1 : decode cM_boxedBy 1 = .ok (.istore_n 2, 1) := by decide +kernel
theorem ddM_boxedBy_2 : decode cM_boxedBy 2 = .ok (.iconst 0, 1) := by decide +kernel
theorem ddM_boxedBy_3 : decode cM_boxedBy 3 = .ok (.istore_n 3, 1) := by decide +kernel
theorem ddM_boxedBy_4 : decode cM_boxedBy 4 = .ok (.iload_n 3, 1) := by decide +kernel
theorem ddM_boxedBy_5 : decode cM_boxedBy 5 = .ok (.aload_n 0, 1) := by decide +kernel
theorem ddM_boxedBy_6 : decode cM_boxedBy 6 = .ok (.getfield 19, 3) := by decide +kernel
theorem ddM_boxedBy_9 : decode cM_boxedBy 9 = .ok (.iconst 1, 1) := by decide +kernel
theorem ddM_boxedBy_10 : decode cM_boxedBy 10 = .ok (.iaload, 1) := by decide +kernel
theorem ddM_boxedBy_11 : decode cM_boxedBy 11 = .ok (.if_icmp .ge 22, 3) := by decide +kernel
theorem ddM_boxedBy_14 : decode cM_boxedBy 14 = .ok (.iload_n 2, 1) := by decide +kernel
theorem ddM_boxedBy_15 : decode cM_boxedBy 15 = .ok (.aload_n 0, 1) := by decide +kernel
theorem ddM_boxedBy_16 : decode cM_boxedBy 16 = .ok (.getfield 31, 3) := by decide +kernel
theorem ddM_boxedBy_19 : decode cM_boxedBy 19 = .ok (.iload_n 1, 1) := by decide +kernel
theorem ddM_boxedBy_20 : decode cM_boxedBy 20 = .ok (.iload_n 3, 1) := by decide +kernel
theorem ddM_boxedBy_21 : decode cM_boxedBy 21 = .ok (.invokestatic 238, 3) := by decide +kernel
theorem ddM_boxedBy_24 : decode cM_boxedBy 24 = .ok (.iaload, 1) := by decide +kernel
theorem ddM_boxedBy_25 : decode cM_boxedBy 25 = .ok (.iadd, 1) := by decide +kernel
theorem ddM_boxedBy_26 : decode cM_boxedBy 26 = .ok (.istore_n 2, 1) := by decide +kernel
theorem ddM_boxedBy_27 : decode cM_boxedBy 27 = .ok (.iinc 3 1, 3) := by decide +kernel
theorem ddM_boxedBy_30 : decode cM_boxedBy 30 = .ok (.goto (-26), 3) := by decide +kernel
theorem ddM_boxedBy_33 : decode cM_boxedBy 33 = .ok (.iload_n 2, 1) := by decide +kernel
theorem ddM_boxedBy_34 : decode cM_boxedBy 34 = .ok (.ireturn, 1) := by decide +kernel
set_option maxHeartbeats 2000000 in
theorem zBM_boxedBy_4 {G : GXM} {X : CxM} (hG : GokM G) (C : CoM G X cM_boxedBy "HomeFreedModel") (N : mLM X = 4) {d : Nat} (hD : dpM X = d) (hd : 1 ≤ d) {v0 : Nat} {v1 : Int32} {K : Nat → Int32 → Int32 → Int32 → Mem → Option ((Int32 × Mem))} {q : (Int32 × Mem)} (hK : ∀ (v2 : Int32) (v3 : Int32) (M : Mem), K v0 v1 v2 v3 M = some q → ZM G X 4 [(0, .ref v0), (1, .int v1), (2, .int v2), (3, .int v3)] [] M 0 0) (hr : ∀ r : Int32 × Mem, q =  r → EnM G X (some .int) (some (.int r.1)) r.2 0 0) {v2 : Int32} {v3 : Int32} {M : Mem} (h : BM_boxedBy_4 K v0 v1 v2 v3 M = some q) : ZM G X 4 [(0, .ref v0), (1, .int v1), (2, .int v2), (3, .int v3)] [] M 0 0 := by
  unfold BM_boxedBy_4 at h
  refine zz_iload_n C 3 ddM_boxedBy_4 rfl rfl ?_
  refine zz_aload_n C 0 ddM_boxedBy_5 rfl rfl ?_
  obtain ⟨h1, h⟩ := gdN h
  obtain ⟨h2, h⟩ := gdN h
  refine zz_getr C ddM_boxedBy_6 fl_M_19 rfl h1 (of_decide_eq_true h2) ?_
  refine zz_iconst (v := 1) C ddM_boxedBy_9 (by decide) ?_
  obtain ⟨h3, h⟩ := gdN h
  refine zz_iaload C ddM_boxedBy_10 h3 ?_
  refine zz_icmp_ge (tgt := 33) C ddM_boxedBy_11 rfl (fun hc => ?_) (fun hc => ?_)
  · replace h := iteT h hc
    refine zz_iload_n C 2 ddM_boxedBy_33 rfl rfl ?_
    exact zz_iret C (hr _ (Option.some.inj h).symm) ddM_boxedBy_34
  · replace h := iteF h hc
    refine zz_iload_n C 2 ddM_boxedBy_14 rfl rfl ?_
    refine zz_aload_n C 0 ddM_boxedBy_15 rfl rfl ?_
    obtain ⟨h4, h⟩ := gdN h
    refine zz_getr C ddM_boxedBy_16 fl_M_31 rfl h1 (of_decide_eq_true h4) ?_
    refine zz_iload_n C 1 ddM_boxedBy_19 rfl rfl ?_
    refine zz_iload_n C 3 ddM_boxedBy_20 rfl rfl ?_
    obtain ⟨q5, hq5, h⟩ := bindN h
    refine zz_callS0 (As := [.int v1, .int v3]) C ddM_boxedBy_21 wd_1425 my_M_boxAt mv_M_boxAt (xM_boxAt hG (d - 1) (by omega) hq5) (by omega) rfl rfl (Nat.le_of_ble_eq_true rfl) ?_
    obtain ⟨h6, h⟩ := gdN h
    refine zz_iaload C ddM_boxedBy_24 h6 ?_
    refine zz_iadd C ddM_boxedBy_25 ?_
    refine zz_istore_n (L1 := [(2, .int (v2 + (giM q5.2 (grM M v0 15) (Int32.toNatClampNeg q5.1)))), (0, .ref v0), (1, .int v1), (3, .int v3)]) C ddM_boxedBy_26 rfl N (by decide) rfl ?_
    refine zz_iinc (v := v3 + 1) (L1 := [(3, .int (v3 + 1)), (2, .int (v2 + (giM q5.2 (grM M v0 15) (Int32.toNatClampNeg q5.1)))), (0, .ref v0), (1, .int v1)]) C 3 ddM_boxedBy_27 rfl rfl N (by decide) rfl ?_
    refine zz_goto (tgt := 4) C ddM_boxedBy_30 rfl ?_
    refine zz_loc (L1 := [(0, .ref v0), (1, .int v1), (2, .int (v2 + (giM q5.2 (grM M v0 15) (Int32.toNatClampNeg q5.1)))), (3, .int (v3 + 1))]) [2, 3, 1, 0] rfl ?_
    exact hK _ _ _ h
set_option maxHeartbeats 2000000 in
theorem zLM_boxedBy_4 {G : GXM} {X : CxM} (hG : GokM G) (C : CoM G X cM_boxedBy "HomeFreedModel") (N : mLM X = 4) {d : Nat} (hD : dpM X = d) (hd : 1 ≤ d) {v0 : Nat} {v1 : Int32} {q : (Int32 × Mem)} : ∀ (f : Nat) (v2 : Int32) (v3 : Int32) (M : Mem), LM_boxedBy_4 f v0 v1 v2 v3 M = some q → (hr : ∀ r : Int32 × Mem, q =  r → EnM G X (some .int) (some (.int r.1)) r.2 0 0) → ZM G X 4 [(0, .ref v0), (1, .int v1), (2, .int v2), (3, .int v3)] [] M 0 0 := by
  intro f
  induction f with
  | zero => intro v2 v3 M h; cases h
  | succ f ih =>
    intro v2 v3 M h hr
    exact zBM_boxedBy_4 hG C N hD hd (K := LM_boxedBy_4 f) (q := q) (fun v2 v3 M h => ih v2 v3 M h hr) hr h
set_option maxHeartbeats 2000000 in
theorem xM_boxedBy {G : GXM} {l : Launch} (hG : GokM G) (d : Nat) (hd : 1 ≤ d) {v0 : Nat} {v1 : Int32} {M : Mem} {q : Int32 × Mem} (h : fM_boxedBy v0 v1 M = some q) : ExM G l d 0 0 yM_boxedBy cM_boxedBy 4 (some .int) [.ref v0, .int v1] M (some (.int q.1)) q.2 := by
  refine ex_of hG (by decide) (Nat.le_of_ble_eq_true rfl) ?_
  intro X hl C E N hD hn
  show ZM G X 0 [(3, .int v3), (2, .int v2), (0, .ref v0), (1, .int v1)] [] M 0 0
  unfold fM_boxedBy at h
  refine zz_iconst (v := 0) C ddM_boxedBy_0 (by decide) ?_
  refine zz_istore_n (L1 := [(2, .int 0), (0, .ref v0), (1, .int v1)]) C ddM_boxedBy_1 rfl N (by decide) rfl ?_
  refine zz_iconst (v := 0) C ddM_boxedBy_2 (by decide) ?_
  refine zz_istore_n (L1 := [(3, .int 0), (2, .int 0), (0, .ref v0), (1, .int v1)]) C ddM_boxedBy_3 rfl N (by decide) rfl ?_
  refine zz_loc (L1 := [(0, .ref v0), (1, .int v1), (2, .int 0), (3, .int 0)]) [2, 3, 1, 0] rfl ?_
  obtain ⟨q1, hq1, h⟩ := bindN h
  refine zLM_boxedBy_4 hG C N hD hd 1000000 _ _ _ hq1 ?_
  · intro r2 eq1; subst eq1
    obtain rfl := Option.some.inj h
    exact E
theorem ddM_thread_0 : decode cM_thread 0 = .ok (.aload_n 0, 1) := by decide +kernel
theorem ddM_thread_1 : decode cM_thread 1 = .ok (.iload_n 1, 1) := by decide +kernel
theorem ddM_thread_2 : decode cM_thread 2 = .ok (.invokevirtual 163, 3) := by decide +kernel
theorem ddM_thread_5 : decode cM_thread 5 = .ok (.ifCond .eq 12, 3) := by decide +kernel
theorem ddM_thread_8 : decode cM_thread 8 = .ok (.iload_n 2, 1) := by decide +kernel
theorem ddM_thread_9 : decode cM_thread 9 = .ok (.iconst 0, 1) := by decide +kernel
theorem ddM_thread_10 : decode cM_thread 10 = .ok (.iconst 3, 1) := by decide +kernel
theorem ddM_thread_11 : decode cM_thread 11 = .ok (.invokestatic 75, 3) := by decide +kernel
theorem ddM_thread_14 : decode cM_thread 14 = .ok (.ifCond .ne 5, 3) := by decide +kernel
theorem ddM_thread_17 : decode cM_thread 17 = .ok (.iconst (-1), 1) := by decide +kernel
theorem ddM_thread_18 : decode cM_thread 18 = .ok (.ireturn, 1) := by decide +kernel
theorem ddM_thread_19 : decode cM_thread 19 = .ok (.iload_n 2, 1) := by decide +kernel
theorem ddM_thread_20 : decode cM_thread 20 = .ok (.tableswitch 56 0 2 #[28, 39, 45], 28) := by decide +kernel
theorem ddM_thread_48 : decode cM_thread 48 = .ok (.aload_n 0, 1) := by decide +kernel
theorem ddM_thread_49 : decode cM_thread 49 = .ok (.getfield 31, 3) := by decide +kernel
theorem ddM_thread_52 : decode cM_thread 52 = .ok (.sipush 3704, 3) := by decide +kernel
theorem ddM_thread_55 : decode cM_thread 55 = .ok (.iload_n 1, 1) := by decide +kernel
theorem ddM_thread_56 : decode cM_thread 56 = .ok (.iadd, 1) := by decide +kernel
theorem ddM_thread_57 : decode cM_thread 57 = .ok (.iaload, 1) := by decide +kernel
theorem ddM_thread_58 : decode cM_thread 58 = .ok (.ireturn, 1) := by decide +kernel
theorem ddM_thread_59 : decode cM_thread 59 = .ok (.aload_n 0, 1) := by decide +kernel
theorem ddM_thread_60 : decode cM_thread 60 = .ok (.iload_n 1, 1) := by decide +kernel
theorem ddM_thread_61 : decode cM_thread 61 = .ok (.invokevirtual 300, 3) := by decide +kernel
theorem ddM_thread_64 : decode cM_thread 64 = .ok (.ireturn, 1) := by decide +kernel
theorem ddM_thread_65 : decode cM_thread 65 = .ok (.aload_n 0, 1) := by decide +kernel
theorem ddM_thread_66 : decode cM_thread 66 = .ok (.getfield 31, 3) := by decide +kernel
theorem ddM_thread_69 : decode cM_thread 69 = .ok (.sipush 3708, 3) := by decide +kernel
theorem ddM_thread_72 : decode cM_thread 72 = .ok (.iload_n 1, 1) := by decide +kernel
theorem ddM_thread_73 : decode cM_thread 73 = .ok (.iadd, 1) := by decide +kernel
theorem ddM_thread_74 : decode cM_thread 74 = .ok (.iaload, 1) := by decide +kernel
theorem ddM_thread_75 : decode cM_thread 75 = .ok (.ireturn, 1) := by decide +kernel
theorem ddM_thread_76 : decode cM_thread 76 = .ok (.aload_n 0, 1) := by decide +kernel
theorem ddM_thread_77 : decode cM_thread 77 = .ok (.iload_n 1, 1) := by decide +kernel
theorem ddM_thread_78 : decode cM_thread 78 = .ok (.invokevirtual 303, 3) := by decide +kernel
theorem ddM_thread_81 : decode cM_thread 81 = .ok (.ireturn, 1) := by decide +kernel
set_option maxHeartbeats 2000000 in
theorem zBM_thread_17 {G : GXM} {X : CxM} (hG : GokM G) (C : CoM G X cM_thread "HomeFreedModel") (N : mLM X = 3) {d : Nat} (hD : dpM X = d) (hd : 4 ≤ d)  {q : Int32 × Mem} (E : EnM G X (some .int) (some (.int q.1)) q.2 0 0) {M : Mem} (h : BM_thread_17 M = some q) : ZM G X 17 [] [] M 0 0 := by
  unfold BM_thread_17 at h
  refine zz_iconst (v := (-1)) C ddM_thread_17 (by decide) ?_
  obtain rfl := Option.some.inj h
  exact zz_iret C E ddM_thread_18
set_option maxHeartbeats 2000000 in
theorem xM_thread {G : GXM} {l : Launch} (hG : GokM G) (d : Nat) (hd : 4 ≤ d) {v0 : Nat} {v1 : Int32} {v2 : Int32} {M : Mem} {q : Int32 × Mem} (h : fM_thread v0 v1 v2 M = some q) : ExM G l d 0 0 yM_thread cM_thread 3 (some .int) [.ref v0, .int v1, .int v2] M (some (.int q.1)) q.2 := by
  refine ex_of hG (by decide) (Nat.le_of_ble_eq_true rfl) ?_
  intro X hl C E N hD hn
  show ZM G X 0 [(0, .ref v0), (1, .int v1), (2, .int v2)] [] M 0 0
  unfold fM_thread at h
  refine zz_aload_n C 0 ddM_thread_0 rfl rfl ?_
  refine zz_iload_n C 1 ddM_thread_1 rfl rfl ?_
  obtain ⟨h2, h⟩ := gdN h
  obtain ⟨q1, hq1, h⟩ := bindN h
  refine zz_callV0 (As := [.int v1]) C ddM_thread_2 wd_1409 my_M_isThread mv_M_isThread ⟨_, rfl, rfl⟩ (xM_isThread hG (d - 1) (by omega) hq1) (by omega) h2 rfl rfl (Nat.le_of_ble_eq_true rfl) ?_
  refine zz_if_eq (tgt := 17) C ddM_thread_5 rfl (fun hc => ?_) (fun hc => ?_)
  · replace h := iteT h hc
    refine zz_loc (L1 := []) [] rfl ?_
    exact zBM_thread_17 hG C N hD hd E h
  · replace h := iteF h hc
    refine zz_iload_n C 2 ddM_thread_8 rfl rfl ?_
    refine zz_iconst (v := 0) C ddM_thread_9 (by decide) ?_
    refine zz_iconst (v := 3) C ddM_thread_10 (by decide) ?_
    obtain ⟨q3, hq3, h⟩ := bindN h
    refine zz_callS0 (As := [.int v2, .int 0, .int 3]) C ddM_thread_11 wd_1289 my_M_in mv_M_in (xM_in hG (d - 1) (by omega) hq3) (by omega) rfl rfl (Nat.le_of_ble_eq_true rfl) ?_
    refine zz_if_ne (tgt := 19) C ddM_thread_14 rfl (fun hc => ?_) (fun hc => ?_)
    · replace h := iteF h hc
      refine zz_iload_n C 2 ddM_thread_19 rfl rfl ?_
      by_cases hs20_0 : v2 = 0
      · replace h := iteT h hs20_0
        rw [hs20_0]
        refine zz_tableIn (tgt := 48) C ddM_thread_20 (by decide) (by decide) rfl rfl ?_
        refine zz_aload_n C 0 ddM_thread_48 rfl rfl ?_
        obtain ⟨h4, h⟩ := gdN h
        obtain ⟨h5, h⟩ := gdN h
        refine zz_getr C ddM_thread_49 fl_M_31 rfl h4 (of_decide_eq_true h5) ?_
        refine zz_sipush (v := 3704) C ddM_thread_52 (by decide) ?_
        refine zz_iload_n C 1 ddM_thread_55 rfl rfl ?_
        refine zz_iadd C ddM_thread_56 ?_
        obtain ⟨h6, h⟩ := gdN h
        refine zz_iaload C ddM_thread_57 h6 ?_
        obtain rfl := Option.some.inj h
        exact zz_iret C E ddM_thread_58
      replace h := iteF h hs20_0
      by_cases hs20_1 : v2 = 1
      · replace h := iteT h hs20_1
        rw [hs20_1]
        refine zz_tableIn (tgt := 59) C ddM_thread_20 (by decide) (by decide) rfl rfl ?_
        refine zz_aload_n C 0 ddM_thread_59 rfl rfl ?_
        refine zz_iload_n C 1 ddM_thread_60 rfl rfl ?_
        obtain ⟨h8, h⟩ := gdN h
        obtain ⟨q7, hq7, h⟩ := bindN h
        refine zz_callV0 (As := [.int v1]) C ddM_thread_61 wd_1413 my_M_ownedBy mv_M_ownedBy ⟨_, rfl, rfl⟩ (xM_ownedBy hG (d - 1) (by omega) hq7) (by omega) h8 rfl rfl (Nat.le_of_ble_eq_true rfl) ?_
        obtain rfl := Option.some.inj h
        exact zz_iret C E ddM_thread_64
      replace h := iteF h hs20_1
      by_cases hs20_2 : v2 = 2
      · replace h := iteT h hs20_2
        rw [hs20_2]
        refine zz_tableIn (tgt := 65) C ddM_thread_20 (by decide) (by decide) rfl rfl ?_
        refine zz_aload_n C 0 ddM_thread_65 rfl rfl ?_
        obtain ⟨h9, h⟩ := gdN h
        obtain ⟨h10, h⟩ := gdN h
        refine zz_getr C ddM_thread_66 fl_M_31 rfl h9 (of_decide_eq_true h10) ?_
        refine zz_sipush (v := 3708) C ddM_thread_69 (by decide) ?_
        refine zz_iload_n C 1 ddM_thread_72 rfl rfl ?_
        refine zz_iadd C ddM_thread_73 ?_
        obtain ⟨h11, h⟩ := gdN h
        refine zz_iaload C ddM_thread_74 h11 ?_
        obtain rfl := Option.some.inj h
        exact zz_iret C E ddM_thread_75
      replace h := iteF h hs20_2
      have ths20_0 := lv_neT (a := 0) hs20_0 (by decide)
      have ths20_1 := lv_neT (a := 1) hs20_1 (by decide)
      have ths20_2 := lv_neT (a := 2) hs20_2 (by decide)
      refine zz_tableOut (tgt := 76) C ddM_thread_20 (by omega) rfl ?_
      refine zz_aload_n C 0 ddM_thread_76 rfl rfl ?_
      refine zz_iload_n C 1 ddM_thread_77 rfl rfl ?_
      obtain ⟨h13, h⟩ := gdN h
      obtain ⟨q12, hq12, h⟩ := bindN h
      refine zz_callV0 (As := [.int v1]) C ddM_thread_78 wd_1421 my_M_boxedBy mv_M_boxedBy ⟨_, rfl, rfl⟩ (xM_boxedBy hG (d - 1) (by omega) hq12) (by omega) h13 rfl rfl (Nat.le_of_ble_eq_true rfl) ?_
      obtain rfl := Option.some.inj h
      exact zz_iret C E ddM_thread_81
    · replace h := iteT h hc
      refine zz_loc (L1 := []) [] rfl ?_
      exact zBM_thread_17 hG C N hD hd E h
theorem ddM_queueAt_0 : decode cM_queueAt 0 = .ok (.sipush 2656, 3) := by decide +kernel
theorem ddM_queueAt_3 : decode cM_queueAt 3 = .ok (.bipush 17, 2) := by decide +kernel
theorem ddM_queueAt_5 : decode cM_queueAt 5 = .ok (.bipush 6, 2) := by decide +kernel
theorem ddM_queueAt_7 : decode cM_queueAt 7 = .ok (.iload_n 0, 1) := by decide +kernel
theorem ddM_queueAt_8 : decode cM_queueAt 8 = .ok (.imul, 1) := by decide +kernel
theorem ddM_queueAt_9 : decode cM_queueAt 9 = .ok (.iload_n 1, 1) := by decide +kernel
theorem ddM_queueAt_10 : decode cM_queueAt 10 = .ok (.iadd, 1) := by decide +kernel
theorem ddM_queueAt_11 : decode cM_queueAt 11 = .ok (.imul, 1) := by decide +kernel
theorem ddM_queueAt_12 : decode cM_queueAt 12 = .ok (.iadd, 1) := by decide +kernel
theorem ddM_queueAt_13 : decode cM_queueAt 13 = .ok (.ireturn, 1) := by decide +kernel
set_option maxHeartbeats 2000000 in
theorem xM_queueAt {G : GXM} {l : Launch} (hG : GokM G) (d : Nat) (hd : 0 ≤ d) {v0 : Int32} {v1 : Int32} {M : Mem} {q : Int32 × Mem} (h : fM_queueAt v0 v1 M = some q) : ExM G l d 0 0 yM_queueAt cM_queueAt 2 (some .int) [.int v0, .int v1] M (some (.int q.1)) q.2 := by
  refine ex_of hG (by decide) (Nat.le_of_ble_eq_true rfl) ?_
  intro X hl C E N hD hn
  show ZM G X 0 [(0, .int v0), (1, .int v1)] [] M 0 0
  unfold fM_queueAt at h
  refine zz_sipush (v := 2656) C ddM_queueAt_0 (by decide) ?_
  refine zz_bipush (v := 17) C ddM_queueAt_3 (by decide) ?_
  refine zz_bipush (v := 6) C ddM_queueAt_5 (by decide) ?_
  refine zz_iload_n C 0 ddM_queueAt_7 rfl rfl ?_
  refine zz_imul C ddM_queueAt_8 ?_
  refine zz_iload_n C 1 ddM_queueAt_9 rfl rfl ?_
  refine zz_iadd C ddM_queueAt_10 ?_
  refine zz_imul C ddM_queueAt_11 ?_
  refine zz_iadd C ddM_queueAt_12 ?_
  obtain rfl := Option.some.inj h
  exact zz_iret C E ddM_queueAt_13
theorem ddM_queue_0 : decode cM_queue 0 = .ok (.aload_n 0, 1) := by decide +kernel
theorem ddM_queue_1 : decode cM_queue 1 = .ok (.iload_n 1, 1) := by decide +kernel
theorem ddM_queue_2 : decode cM_queue 2 = .ok (.invokevirtual 163, 3) := by decide +kernel
theorem ddM_queue_5 : decode cM_queue 5 = .ok (.ifCond .eq 54, 3) := by decide +kernel
theorem ddM_queue_8 : decode cM_queue 8 = .ok (.iload_n 2, 1) := by decide +kernel
theorem ddM_queue_9 : decode cM_queue 9 = .ok (.iconst 0, 1) := by decide +kernel
theorem ddM_queue_10 : decode cM_queue 10 = .ok (.aload_n 0, 1) := by decide +kernel
theorem ddM_queue_11 : decode cM_queue 11 = .ok (.getfield 144, 3) := by decide +kernel
theorem ddM_queue_14 : decode cM_queue 14 = .ok (.iconst 1, 1) := by decide +kernel
theorem ddM_queue_15 : decode cM_queue 15 = .ok (.isub, 1) := by decide +kernel
theorem ddM_queue_16 : decode cM_queue 16 = .ok (.invokestatic 75, 3) := by decide +kernel
theorem ddM_queue_19 : decode cM_queue 19 = .ok (.ifCond .eq 40, 3) := by decide +kernel
theorem ddM_queue_22 : decode cM_queue 22 = .ok (.iload_n 3, 1) := by decide +kernel
theorem ddM_queue_23 : decode cM_queue 23 = .ok (.iconst 0, 1) := by decide +kernel
theorem ddM_queue_24 : decode cM_queue 24 = .ok (.aload_n 0, 1) := by decide +kernel
theorem ddM_queue_25 : decode cM_queue 25 = .ok (.getfield 31, 3) := by decide +kernel
theorem ddM_queue_28 : decode cM_queue 28 = .ok (.iload_n 1, 1) := by decide +kernel
theorem ddM_queue_29 : decode cM_queue 29 = .ok (.iload_n 2, 1) := by decide +kernel
theorem ddM_queue_30 : decode cM_queue 30 = .ok (.invokestatic 182, 3) := by decide +kernel
theorem ddM_queue_33 : decode cM_queue 33 = .ok (.iaload, 1) := by decide +kernel
theorem ddM_queue_34 : decode cM_queue 34 = .ok (.iconst 1, 1) := by decide +kernel
theorem ddM_queue_35 : decode cM_queue 35 = .ok (.isub, 1) := by decide +kernel
theorem ddM_queue_36 : decode cM_queue 36 = .ok (.invokestatic 75, 3) := by decide +kernel
theorem ddM_queue_39 : decode cM_queue 39 = .ok (.ifCond .eq 20, 3) := by decide +kernel
theorem ddM_queue_42 : decode cM_queue 42 = .ok (.aload_n 0, 1) := by decide +kernel
theorem ddM_queue_43 : decode cM_queue 43 = .ok (.getfield 31, 3) := by decide +kernel
theorem ddM_queue_46 : decode cM_queue 46 = .ok (.iload_n 1, 1) := by decide +kernel
theorem ddM_queue_47 : decode cM_queue 47 = .ok (.iload_n 2, 1) := by decide +kernel
theorem ddM_queue_48 : decode cM_queue 48 = .ok (.invokestatic 182, 3) := by decide +kernel
theorem ddM_queue_51 : decode cM_queue 51 = .ok (.iconst 1, 1) := by decide +kernel
theorem ddM_queue_52 : decode cM_queue 52 = .ok (.iadd, 1) := by decide +kernel
theorem ddM_queue_53 : decode cM_queue 53 = .ok (.iload_n 3, 1) := by decide +kernel
theorem ddM_queue_54 : decode cM_queue 54 = .ok (.iadd, 1) := by decide +kernel
theorem ddM_queue_55 : decode cM_queue 55 = .ok (.iaload, 1) := by decide +kernel
theorem ddM_queue_56 : decode cM_queue 56 = .ok (.goto 4, 3) := by decide +kernel
theorem ddM_queue_59 : decode cM_queue 59 = .ok (.iconst (-1), 1) := by decide +kernel
theorem ddM_queue_60 : decode cM_queue 60 = .ok (.ireturn, 1) := by decide +kernel
set_option maxHeartbeats 2000000 in
theorem zBM_queue_60 {G : GXM} {X : CxM} (hG : GokM G) (C : CoM G X cM_queue "HomeFreedModel") (N : mLM X = 4) {d : Nat} (hD : dpM X = d) (hd : 2 ≤ d)  {q : Int32 × Mem} (E : EnM G X (some .int) (some (.int q.1)) q.2 0 0) {w0 : Int32} {M : Mem} (h : BM_queue_60 w0 M = some q) : ZM G X 60 [] [.int w0] M 0 0 := by
  unfold BM_queue_60 at h
  obtain rfl := Option.some.inj h
  exact zz_iret C E ddM_queue_60
set_option maxHeartbeats 2000000 in
theorem zBM_queue_59 {G : GXM} {X : CxM} (hG : GokM G) (C : CoM G X cM_queue "HomeFreedModel") (N : mLM X = 4) {d : Nat} (hD : dpM X = d) (hd : 2 ≤ d)  {q : Int32 × Mem} (E : EnM G X (some .int) (some (.int q.1)) q.2 0 0) {M : Mem} (h : BM_queue_59 M = some q) : ZM G X 59 [] [] M 0 0 := by
  unfold BM_queue_59 at h
  refine zz_iconst (v := (-1)) C ddM_queue_59 (by decide) ?_
  exact zBM_queue_60 hG C N hD hd E h
set_option maxHeartbeats 2000000 in
theorem xM_queue {G : GXM} {l : Launch} (hG : GokM G) (d : Nat) (hd : 2 ≤ d) {v0 : Nat} {v1 : Int32} {v2 : Int32} {v3 : Int32} {M : Mem} {q : Int32 × Mem} (h : fM_queue v0 v1 v2 v3 M = some q) : ExM G l d 0 0 yM_queue cM_queue 4 (some .int) [.ref v0, .int v1, .int v2, .int v3] M (some (.int q.1)) q.2 := by
  refine ex_of hG (by decide) (Nat.le_of_ble_eq_true rfl) ?_
  intro X hl C E N hD hn
  show ZM G X 0 [(0, .ref v0), (1, .int v1), (2, .int v2), (3, .int v3)] [] M 0 0
  unfold fM_queue at h
  refine zz_aload_n C 0 ddM_queue_0 rfl rfl ?_
  refine zz_iload_n C 1 ddM_queue_1 rfl rfl ?_
  obtain ⟨h2, h⟩ := gdN h
  obtain ⟨q1, hq1, h⟩ := bindN h
  refine zz_callV0 (As := [.int v1]) C ddM_queue_2 wd_1409 my_M_isThread mv_M_isThread ⟨_, rfl, rfl⟩ (xM_isThread hG (d - 1) (by omega) hq1) (by omega) h2 rfl rfl (Nat.le_of_ble_eq_true rfl) ?_
  refine zz_if_eq (tgt := 59) C ddM_queue_5 rfl (fun hc => ?_) (fun hc => ?_)
  · replace h := iteT h hc
    refine zz_loc (L1 := []) [] rfl ?_
    exact zBM_queue_59 hG C N hD hd E h
  · replace h := iteF h hc
    refine zz_iload_n C 2 ddM_queue_8 rfl rfl ?_
    refine zz_iconst (v := 0) C ddM_queue_9 (by decide) ?_
    refine zz_aload_n C 0 ddM_queue_10 rfl rfl ?_
    obtain ⟨h3, h⟩ := gdN h
    refine zz_geti C ddM_queue_11 fl_M_144 rfl h3 ?_
    refine zz_iconst (v := 1) C ddM_queue_14 (by decide) ?_
    refine zz_isub C ddM_queue_15 ?_
    obtain ⟨q4, hq4, h⟩ := bindN h
    refine zz_callS0 (As := [.int v2, .int 0, .int ((giM q1.2 v0 10) - 1)]) C ddM_queue_16 wd_1289 my_M_in mv_M_in (xM_in hG (d - 1) (by omega) hq4) (by omega) rfl rfl (Nat.le_of_ble_eq_true rfl) ?_
    refine zz_if_eq (tgt := 59) C ddM_queue_19 rfl (fun hc => ?_) (fun hc => ?_)
    · replace h := iteT h hc
      refine zz_loc (L1 := []) [] rfl ?_
      exact zBM_queue_59 hG C N hD hd E h
    · replace h := iteF h hc
      refine zz_iload_n C 3 ddM_queue_22 rfl rfl ?_
      refine zz_iconst (v := 0) C ddM_queue_23 (by decide) ?_
      refine zz_aload_n C 0 ddM_queue_24 rfl rfl ?_
      obtain ⟨h5, h⟩ := gdN h
      obtain ⟨h6, h⟩ := gdN h
      refine zz_getr C ddM_queue_25 fl_M_31 rfl h5 (of_decide_eq_true h6) ?_
      refine zz_iload_n C 1 ddM_queue_28 rfl rfl ?_
      refine zz_iload_n C 2 ddM_queue_29 rfl rfl ?_
      obtain ⟨q7, hq7, h⟩ := bindN h
      refine zz_callS0 (As := [.int v1, .int v2]) C ddM_queue_30 wd_1432 my_M_queueAt mv_M_queueAt (xM_queueAt hG (d - 1) (by omega) hq7) (by omega) rfl rfl (Nat.le_of_ble_eq_true rfl) ?_
      obtain ⟨h8, h⟩ := gdN h
      refine zz_iaload C ddM_queue_33 h8 ?_
      refine zz_iconst (v := 1) C ddM_queue_34 (by decide) ?_
      refine zz_isub C ddM_queue_35 ?_
      obtain ⟨q9, hq9, h⟩ := bindN h
      refine zz_callS0 (As := [.int v3, .int 0, .int ((giM q7.2 (grM q4.2 v0 15) (Int32.toNatClampNeg q7.1)) - 1)]) C ddM_queue_36 wd_1289 my_M_in mv_M_in (xM_in hG (d - 1) (by omega) hq9) (by omega) rfl rfl (Nat.le_of_ble_eq_true rfl) ?_
      refine zz_if_eq (tgt := 59) C ddM_queue_39 rfl (fun hc => ?_) (fun hc => ?_)
      · replace h := iteT h hc
        refine zz_loc (L1 := []) [] rfl ?_
        exact zBM_queue_59 hG C N hD hd E h
      · replace h := iteF h hc
        refine zz_aload_n C 0 ddM_queue_42 rfl rfl ?_
        obtain ⟨h10, h⟩ := gdN h
        obtain ⟨h11, h⟩ := gdN h
        refine zz_getr C ddM_queue_43 fl_M_31 rfl h10 (of_decide_eq_true h11) ?_
        refine zz_iload_n C 1 ddM_queue_46 rfl rfl ?_
        refine zz_iload_n C 2 ddM_queue_47 rfl rfl ?_
        obtain ⟨q12, hq12, h⟩ := bindN h
        refine zz_callS0 (As := [.int v1, .int v2]) C ddM_queue_48 wd_1432 my_M_queueAt mv_M_queueAt (xM_queueAt hG (d - 1) (by omega) hq12) (by omega) rfl rfl (Nat.le_of_ble_eq_true rfl) ?_
        refine zz_iconst (v := 1) C ddM_queue_51 (by decide) ?_
        refine zz_iadd C ddM_queue_52 ?_
        refine zz_iload_n C 3 ddM_queue_53 rfl rfl ?_
        refine zz_iadd C ddM_queue_54 ?_
        obtain ⟨h13, h⟩ := gdN h
        refine zz_iaload C ddM_queue_55 h13 ?_
        refine zz_goto (tgt := 60) C ddM_queue_56 rfl ?_
        refine zz_loc (L1 := []) [] rfl ?_
        exact zBM_queue_60 hG C N hD hd E h
theorem ddM_outbox_0 : decode cM_outbox 0 = .ok (.aload_n 0, 1) := by decide +kernel
theorem ddM_outbox_1 : decode cM_outbox 1 = .ok (.iload_n 1, 1) := by decide +kernel
theorem ddM_outbox_2 : decode cM_outbox 2 = .ok (.invokevirtual 163, 3) := by decide +kernel
theorem ddM_outbox_5 : decode cM_outbox 5 = .ok (.ifCond .eq 48, 3) := by decide +kernel
theorem ddM_outbox_8 : decode cM_outbox 8 = .ok (.aload_n 0, 1) := by decide +kernel
theorem ddM_outbox_9 : decode cM_outbox 9 = .ok (.iload_n 2, 1) := by decide +kernel
theorem ddM_outbox_10 : decode cM_outbox 10 = .ok (.invokevirtual 297, 3) := by decide +kernel
theorem ddM_outbox_13 : decode cM_outbox 13 = .ok (.ifCond .eq 40, 3) := by decide +kernel
theorem ddM_outbox_16 : decode cM_outbox 16 = .ok (.iload_n 3, 1) := by decide +kernel
theorem ddM_outbox_17 : decode cM_outbox 17 = .ok (.iconst 0, 1) := by decide +kernel
theorem ddM_outbox_18 : decode cM_outbox 18 = .ok (.aload_n 0, 1) := by decide +kernel
theorem ddM_outbox_19 : decode cM_outbox 19 = .ok (.getfield 31, 3) := by decide +kernel
theorem ddM_outbox_22 : decode cM_outbox 22 = .ok (.iload_n 1, 1) := by decide +kernel
theorem ddM_outbox_23 : decode cM_outbox 23 = .ok (.iload_n 2, 1) := by decide +kernel
theorem ddM_outbox_24 : decode cM_outbox 24 = .ok (.invokestatic 238, 3) := by decide +kernel
theorem ddM_outbox_27 : decode cM_outbox 27 = .ok (.iaload, 1) := by decide +kernel
theorem ddM_outbox_28 : decode cM_outbox 28 = .ok (.iconst 1, 1) := by decide +kernel
theorem ddM_outbox_29 : decode cM_outbox 29 = .ok (.isub, 1) := by decide +kernel
theorem ddM_outbox_30 : decode cM_outbox 30 = .ok (.invokestatic 75, 3) := by decide +kernel
theorem ddM_outbox_33 : decode cM_outbox 33 = .ok (.ifCond .eq 20, 3) := by decide +kernel
theorem ddM_outbox_36 : decode cM_outbox 36 = .ok (.aload_n 0, 1) := by decide +kernel
theorem ddM_outbox_37 : decode cM_outbox 37 = .ok (.getfield 31, 3) := by decide +kernel
theorem ddM_outbox_40 : decode cM_outbox 40 = .ok (.iload_n 1, 1) := by decide +kernel
theorem ddM_outbox_41 : decode cM_outbox 41 = .ok (.iload_n 2, 1) := by decide +kernel
theorem ddM_outbox_42 : decode cM_outbox 42 = .ok (.invokestatic 238, 3) := by decide +kernel
theorem ddM_outbox_45 : decode cM_outbox 45 = .ok (.iconst 1, 1) := by decide +kernel
theorem ddM_outbox_46 : decode cM_outbox 46 = .ok (.iadd, 1) := by decide +kernel
theorem ddM_outbox_47 : decode cM_outbox 47 = .ok (.iload_n 3, 1) := by decide +kernel
theorem ddM_outbox_48 : decode cM_outbox 48 = .ok (.iadd, 1) := by decide +kernel
theorem ddM_outbox_49 : decode cM_outbox 49 = .ok (.iaload, 1) := by decide +kernel
theorem ddM_outbox_50 : decode cM_outbox 50 = .ok (.goto 4, 3) := by decide +kernel
theorem ddM_outbox_53 : decode cM_outbox 53 = .ok (.iconst (-1), 1) := by decide +kernel
theorem ddM_outbox_54 : decode cM_outbox 54 = .ok (.ireturn, 1) := by decide +kernel
set_option maxHeartbeats 2000000 in
theorem zBM_outbox_54 {G : GXM} {X : CxM} (hG : GokM G) (C : CoM G X cM_outbox "HomeFreedModel") (N : mLM X = 4) {d : Nat} (hD : dpM X = d) (hd : 2 ≤ d)  {q : Int32 × Mem} (E : EnM G X (some .int) (some (.int q.1)) q.2 0 0) {w0 : Int32} {M : Mem} (h : BM_outbox_54 w0 M = some q) : ZM G X 54 [] [.int w0] M 0 0 := by
  unfold BM_outbox_54 at h
  obtain rfl := Option.some.inj h
  exact zz_iret C E ddM_outbox_54
set_option maxHeartbeats 2000000 in
theorem zBM_outbox_53 {G : GXM} {X : CxM} (hG : GokM G) (C : CoM G X cM_outbox "HomeFreedModel") (N : mLM X = 4) {d : Nat} (hD : dpM X = d) (hd : 2 ≤ d)  {q : Int32 × Mem} (E : EnM G X (some .int) (some (.int q.1)) q.2 0 0) {M : Mem} (h : BM_outbox_53 M = some q) : ZM G X 53 [] [] M 0 0 := by
  unfold BM_outbox_53 at h
  refine zz_iconst (v := (-1)) C ddM_outbox_53 (by decide) ?_
  exact zBM_outbox_54 hG C N hD hd E h
set_option maxHeartbeats 2000000 in
theorem xM_outbox {G : GXM} {l : Launch} (hG : GokM G) (d : Nat) (hd : 2 ≤ d) {v0 : Nat} {v1 : Int32} {v2 : Int32} {v3 : Int32} {M : Mem} {q : Int32 × Mem} (h : fM_outbox v0 v1 v2 v3 M = some q) : ExM G l d 0 0 yM_outbox cM_outbox 4 (some .int) [.ref v0, .int v1, .int v2, .int v3] M (some (.int q.1)) q.2 := by
  refine ex_of hG (by decide) (Nat.le_of_ble_eq_true rfl) ?_
  intro X hl C E N hD hn
  show ZM G X 0 [(0, .ref v0), (1, .int v1), (2, .int v2), (3, .int v3)] [] M 0 0
  unfold fM_outbox at h
  refine zz_aload_n C 0 ddM_outbox_0 rfl rfl ?_
  refine zz_iload_n C 1 ddM_outbox_1 rfl rfl ?_
  obtain ⟨h2, h⟩ := gdN h
  obtain ⟨q1, hq1, h⟩ := bindN h
  refine zz_callV0 (As := [.int v1]) C ddM_outbox_2 wd_1409 my_M_isThread mv_M_isThread ⟨_, rfl, rfl⟩ (xM_isThread hG (d - 1) (by omega) hq1) (by omega) h2 rfl rfl (Nat.le_of_ble_eq_true rfl) ?_
  refine zz_if_eq (tgt := 53) C ddM_outbox_5 rfl (fun hc => ?_) (fun hc => ?_)
  · replace h := iteT h hc
    refine zz_loc (L1 := []) [] rfl ?_
    exact zBM_outbox_53 hG C N hD hd E h
  · replace h := iteF h hc
    refine zz_aload_n C 0 ddM_outbox_8 rfl rfl ?_
    refine zz_iload_n C 2 ddM_outbox_9 rfl rfl ?_
    obtain ⟨h4, h⟩ := gdN h
    obtain ⟨q3, hq3, h⟩ := bindN h
    refine zz_callV0 (As := [.int v2]) C ddM_outbox_10 wd_1374 my_M_isPage mv_M_isPage ⟨_, rfl, rfl⟩ (xM_isPage hG (d - 1) (by omega) hq3) (by omega) h4 rfl rfl (Nat.le_of_ble_eq_true rfl) ?_
    refine zz_if_eq (tgt := 53) C ddM_outbox_13 rfl (fun hc => ?_) (fun hc => ?_)
    · replace h := iteT h hc
      refine zz_loc (L1 := []) [] rfl ?_
      exact zBM_outbox_53 hG C N hD hd E h
    · replace h := iteF h hc
      refine zz_iload_n C 3 ddM_outbox_16 rfl rfl ?_
      refine zz_iconst (v := 0) C ddM_outbox_17 (by decide) ?_
      refine zz_aload_n C 0 ddM_outbox_18 rfl rfl ?_
      obtain ⟨h5, h⟩ := gdN h
      obtain ⟨h6, h⟩ := gdN h
      refine zz_getr C ddM_outbox_19 fl_M_31 rfl h5 (of_decide_eq_true h6) ?_
      refine zz_iload_n C 1 ddM_outbox_22 rfl rfl ?_
      refine zz_iload_n C 2 ddM_outbox_23 rfl rfl ?_
      obtain ⟨q7, hq7, h⟩ := bindN h
      refine zz_callS0 (As := [.int v1, .int v2]) C ddM_outbox_24 wd_1425 my_M_boxAt mv_M_boxAt (xM_boxAt hG (d - 1) (by omega) hq7) (by omega) rfl rfl (Nat.le_of_ble_eq_true rfl) ?_
      obtain ⟨h8, h⟩ := gdN h
      refine zz_iaload C ddM_outbox_27 h8 ?_
      refine zz_iconst (v := 1) C ddM_outbox_28 (by decide) ?_
      refine zz_isub C ddM_outbox_29 ?_
      obtain ⟨q9, hq9, h⟩ := bindN h
      refine zz_callS0 (As := [.int v3, .int 0, .int ((giM q7.2 (grM q3.2 v0 15) (Int32.toNatClampNeg q7.1)) - 1)]) C ddM_outbox_30 wd_1289 my_M_in mv_M_in (xM_in hG (d - 1) (by omega) hq9) (by omega) rfl rfl (Nat.le_of_ble_eq_true rfl) ?_
      refine zz_if_eq (tgt := 53) C ddM_outbox_33 rfl (fun hc => ?_) (fun hc => ?_)
      · replace h := iteT h hc
        refine zz_loc (L1 := []) [] rfl ?_
        exact zBM_outbox_53 hG C N hD hd E h
      · replace h := iteF h hc
        refine zz_aload_n C 0 ddM_outbox_36 rfl rfl ?_
        obtain ⟨h10, h⟩ := gdN h
        obtain ⟨h11, h⟩ := gdN h
        refine zz_getr C ddM_outbox_37 fl_M_31 rfl h10 (of_decide_eq_true h11) ?_
        refine zz_iload_n C 1 ddM_outbox_40 rfl rfl ?_
        refine zz_iload_n C 2 ddM_outbox_41 rfl rfl ?_
        obtain ⟨q12, hq12, h⟩ := bindN h
        refine zz_callS0 (As := [.int v1, .int v2]) C ddM_outbox_42 wd_1425 my_M_boxAt mv_M_boxAt (xM_boxAt hG (d - 1) (by omega) hq12) (by omega) rfl rfl (Nat.le_of_ble_eq_true rfl) ?_
        refine zz_iconst (v := 1) C ddM_outbox_45 (by decide) ?_
        refine zz_iadd C ddM_outbox_46 ?_
        refine zz_iload_n C 3 ddM_outbox_47 rfl rfl ?_
        refine zz_iadd C ddM_outbox_48 ?_
        obtain ⟨h13, h⟩ := gdN h
        refine zz_iaload C ddM_outbox_49 h13 ?_
        refine zz_goto (tgt := 54) C ddM_outbox_50 rfl ?_
        refine zz_loc (L1 := []) [] rfl ?_
        exact zBM_outbox_54 hG C N hD hd E h
theorem ddM_isBlock_0 : decode cM_isBlock 0 = .ok (.iload_n 1, 1) := by decide +kernel
theorem ddM_isBlock_1 : decode cM_isBlock 1 = .ok (.ifCond .lt 33, 3) := by decide +kernel
theorem ddM_isBlock_4 : decode cM_isBlock 4 = .ok (.aload_n 0, 1) := by decide +kernel
theorem ddM_isBlock_5 : decode cM_isBlock 5 = .ok (.iload_n 1, 1) := by decide +kernel
theorem ddM_isBlock_6 : decode cM_isBlock 6 = .ok (.bipush 100, 2) := by decide +kernel
theorem ddM_isBlock_8 : decode cM_isBlock 8 = .ok (.idiv, 1) := by decide +kernel
theorem ddM_isBlock_9 : decode cM_isBlock 9 = .ok (.invokevirtual 297, 3) := by decide +kernel
theorem ddM_isBlock_12 : decode cM_isBlock 12 = .ok (.ifCond .eq 22, 3) := by decide +kernel
theorem ddM_isBlock_15 : decode cM_isBlock 15 = .ok (.iload_n 1, 1) := by decide +kernel
theorem ddM_isBlock_16 : decode cM_isBlock 16 = .ok (.bipush 100, 2) := by decide +kernel
theorem ddM_isBlock_18 : decode cM_isBlock 18 = .ok (.irem, 1) := by decide +kernel
theorem ddM_isBlock_19 : decode cM_isBlock 19 = .ok (.aload_n 0, 1) := by decide +kernel
theorem ddM_isBlock_20 : decode cM_isBlock 20 = .ok (.iload_n 1, 1) := by decide +kernel
theorem ddM_isBlock_21 : decode cM_isBlock 21 = .ok (.bipush 100, 2) := by decide +kernel
theorem ddM_isBlock_23 : decode cM_isBlock 23 = .ok (.idiv, 1) := by decide +kernel
theorem ddM_isBlock_24 : decode cM_isBlock 24 = .ok (.invokevirtual 176, 3) := by decide +kernel
theorem ddM_isBlock_27 : decode cM_isBlock 27 = .ok (.if_icmp .ge 7, 3) := by decide +kernel
theorem ddM_isBlock_30 : decode cM_isBlock 30 = .ok (.iconst 1, 1) := by decide +kernel
theorem ddM_isBlock_31 : decode cM_isBlock 31 = .ok (.goto 4, 3) := by decide +kernel
theorem ddM_isBlock_34 : decode cM_isBlock 34 = .ok (.iconst 0, 1) := by decide +kernel
theorem ddM_isBlock_35 : decode cM_isBlock 35 = .ok (.ireturn, 1) := by decide +kernel
set_option maxHeartbeats 2000000 in
theorem zBM_isBlock_35 {G : GXM} {X : CxM} (hG : GokM G) (C : CoM G X cM_isBlock "HomeFreedModel") (N : mLM X = 2) {d : Nat} (hD : dpM X = d) (hd : 2 ≤ d)  {q : Int32 × Mem} (E : EnM G X (some .boolean) (some (.int q.1)) q.2 0 0) {w0 : Int32} {M : Mem} (h : BM_isBlock_35 w0 M = some q) : ZM G X 35 [] [.int w0] M 0 0 := by
  unfold BM_isBlock_35 at h
  obtain ⟨h1, h⟩ := gdN h
  obtain rfl := Option.some.inj h
  exact zz_zret C (of_decide_eq_true h1) E ddM_isBlock_35
set_option maxHeartbeats 2000000 in
theorem zBM_isBlock_34 {G : GXM} {X : CxM} (hG : GokM G) (C : CoM G X cM_isBlock "HomeFreedModel") (N : mLM X = 2) {d : Nat} (hD : dpM X = d) (hd : 2 ≤ d)  {q : Int32 × Mem} (E : EnM G X (some .boolean) (some (.int q.1)) q.2 0 0) {M : Mem} (h : BM_isBlock_34 M = some q) : ZM G X 34 [] [] M 0 0 := by
  unfold BM_isBlock_34 at h
  refine zz_iconst (v := 0) C ddM_isBlock_34 (by decide) ?_
  exact zBM_isBlock_35 hG C N hD hd E h
set_option maxHeartbeats 2000000 in
theorem xM_isBlock {G : GXM} {l : Launch} (hG : GokM G) (d : Nat) (hd : 2 ≤ d) {v0 : Nat} {v1 : Int32} {M : Mem} {q : Int32 × Mem} (h : fM_isBlock v0 v1 M = some q) : ExM G l d 0 0 yM_isBlock cM_isBlock 2 (some .boolean) [.ref v0, .int v1] M (some (.int q.1)) q.2 := by
  refine ex_of hG (by decide) (Nat.le_of_ble_eq_true rfl) ?_
  intro X hl C E N hD hn
  show ZM G X 0 [(0, .ref v0), (1, .int v1)] [] M 0 0
  unfold fM_isBlock at h
  refine zz_iload_n C 1 ddM_isBlock_0 rfl rfl ?_
  refine zz_if_lt (tgt := 34) C ddM_isBlock_1 rfl (fun hc => ?_) (fun hc => ?_)
  · replace h := iteT h hc
    refine zz_loc (L1 := []) [] rfl ?_
    exact zBM_isBlock_34 hG C N hD hd E h
  · replace h := iteF h hc
    refine zz_aload_n C 0 ddM_isBlock_4 rfl rfl ?_
    refine zz_iload_n C 1 ddM_isBlock_5 rfl rfl ?_
    refine zz_bipush (v := 100) C ddM_isBlock_6 (by decide) ?_
    refine zz_idiv C ddM_isBlock_8 (by decide) ?_
    obtain ⟨h2, h⟩ := gdN h
    obtain ⟨q1, hq1, h⟩ := bindN h
    refine zz_callV0 (As := [.int (v1 / 100)]) C ddM_isBlock_9 wd_1374 my_M_isPage mv_M_isPage ⟨_, rfl, rfl⟩ (xM_isPage hG (d - 1) (by omega) hq1) (by omega) h2 rfl rfl (Nat.le_of_ble_eq_true rfl) ?_
    refine zz_if_eq (tgt := 34) C ddM_isBlock_12 rfl (fun hc => ?_) (fun hc => ?_)
    · replace h := iteT h hc
      refine zz_loc (L1 := []) [] rfl ?_
      exact zBM_isBlock_34 hG C N hD hd E h
    · replace h := iteF h hc
      refine zz_iload_n C 1 ddM_isBlock_15 rfl rfl ?_
      refine zz_bipush (v := 100) C ddM_isBlock_16 (by decide) ?_
      refine zz_irem C ddM_isBlock_18 (by decide) ?_
      refine zz_aload_n C 0 ddM_isBlock_19 rfl rfl ?_
      refine zz_iload_n C 1 ddM_isBlock_20 rfl rfl ?_
      refine zz_bipush (v := 100) C ddM_isBlock_21 (by decide) ?_
      refine zz_idiv C ddM_isBlock_23 (by decide) ?_
      obtain ⟨h4, h⟩ := gdN h
      obtain ⟨q3, hq3, h⟩ := bindN h
      refine zz_callV0 (As := [.int (v1 / 100)]) C ddM_isBlock_24 wd_1390 my_M_blocksOf mv_M_blocksOf ⟨_, rfl, rfl⟩ (xM_blocksOf hG (d - 1) (by omega) hq3) (by omega) h4 rfl rfl (Nat.le_of_ble_eq_true rfl) ?_
      refine zz_icmp_ge (tgt := 34) C ddM_isBlock_27 rfl (fun hc => ?_) (fun hc => ?_)
      · replace h := iteT h hc
        refine zz_loc (L1 := []) [] rfl ?_
        exact zBM_isBlock_34 hG C N hD hd E h
      · replace h := iteF h hc
        refine zz_iconst (v := 1) C ddM_isBlock_30 (by decide) ?_
        refine zz_goto (tgt := 35) C ddM_isBlock_31 rfl ?_
        refine zz_loc (L1 := []) [] rfl ?_
        exact zBM_isBlock_35 hG C N hD hd E h
theorem ddM_isHeld_0 : decode cM_isHeld 0 = .ok (.aload_n 0, 1) := by decide +kernel
theorem ddM_isHeld_1 : decode cM_isHeld 1 = .ok (.iload_n 1, 1) := by decide +kernel
theorem ddM_isHeld_2 : decode cM_isHeld 2 = .ok (.bipush 100, 2) := by decide +kernel
theorem ddM_isHeld_4 : decode cM_isHeld 4 = .ok (.idiv, 1) := by decide +kernel
theorem ddM_isHeld_5 : decode cM_isHeld 5 = .ok (.bipush 126, 2) := by decide +kernel
theorem ddM_isHeld_7 : decode cM_isHeld 7 = .ok (.iload_n 1, 1) := by decide +kernel
theorem ddM_isHeld_8 : decode cM_isHeld 8 = .ok (.bipush 100, 2) := by decide +kernel
theorem ddM_isHeld_10 : decode cM_isHeld 10 = .ok (.irem, 1) := by decide +kernel
theorem ddM_isHeld_11 : decode cM_isHeld 11 = .ok (.iadd, 1) := by decide +kernel
theorem ddM_isHeld_12 : decode cM_isHeld 12 = .ok (.invokevirtual 170, 3) := by decide +kernel
theorem ddM_isHeld_15 : decode cM_isHeld 15 = .ok (.iconst 1, 1) := by decide +kernel
theorem ddM_isHeld_16 : decode cM_isHeld 16 = .ok (.if_icmp .ne 7, 3) := by decide +kernel
theorem ddM_isHeld_19 : decode cM_isHeld 19 = .ok (.iconst 1, 1) := by decide +kernel
theorem ddM_isHeld_20 : decode cM_isHeld 20 = .ok (.goto 4, 3) := by decide +kernel
theorem ddM_isHeld_23 : decode cM_isHeld 23 = .ok (.iconst 0, 1) := by decide +kernel
theorem ddM_isHeld_24 : decode cM_isHeld 24 = .ok (.ireturn, 1) := by decide +kernel
set_option maxHeartbeats 2000000 in
theorem zBM_isHeld_24 {G : GXM} {X : CxM} (hG : GokM G) (C : CoM G X cM_isHeld "HomeFreedModel") (N : mLM X = 2) {d : Nat} (hD : dpM X = d) (hd : 1 ≤ d)  {q : Int32 × Mem} (E : EnM G X (some .boolean) (some (.int q.1)) q.2 0 0) {w0 : Int32} {M : Mem} (h : BM_isHeld_24 w0 M = some q) : ZM G X 24 [] [.int w0] M 0 0 := by
  unfold BM_isHeld_24 at h
  obtain ⟨h1, h⟩ := gdN h
  obtain rfl := Option.some.inj h
  exact zz_zret C (of_decide_eq_true h1) E ddM_isHeld_24
set_option maxHeartbeats 2000000 in
theorem xM_isHeld {G : GXM} {l : Launch} (hG : GokM G) (d : Nat) (hd : 1 ≤ d) {v0 : Nat} {v1 : Int32} {M : Mem} {q : Int32 × Mem} (h : fM_isHeld v0 v1 M = some q) : ExM G l d 0 0 yM_isHeld cM_isHeld 2 (some .boolean) [.ref v0, .int v1] M (some (.int q.1)) q.2 := by
  refine ex_of hG (by decide) (Nat.le_of_ble_eq_true rfl) ?_
  intro X hl C E N hD hn
  show ZM G X 0 [(0, .ref v0), (1, .int v1)] [] M 0 0
  unfold fM_isHeld at h
  refine zz_aload_n C 0 ddM_isHeld_0 rfl rfl ?_
  refine zz_iload_n C 1 ddM_isHeld_1 rfl rfl ?_
  refine zz_bipush (v := 100) C ddM_isHeld_2 (by decide) ?_
  refine zz_idiv C ddM_isHeld_4 (by decide) ?_
  refine zz_bipush (v := 126) C ddM_isHeld_5 (by decide) ?_
  refine zz_iload_n C 1 ddM_isHeld_7 rfl rfl ?_
  refine zz_bipush (v := 100) C ddM_isHeld_8 (by decide) ?_
  refine zz_irem C ddM_isHeld_10 (by decide) ?_
  refine zz_iadd C ddM_isHeld_11 ?_
  obtain ⟨h2, h⟩ := gdN h
  obtain ⟨q1, hq1, h⟩ := bindN h
  refine zz_callV0 (As := [.int (v1 / 100), .int (126 + (v1 - v1 / 100 * 100))]) C ddM_isHeld_12 wd_1378 my_M_of mv_M_of ⟨_, rfl, rfl⟩ (xM_of hG (d - 1) (by omega) hq1) (by omega) h2 rfl rfl (Nat.le_of_ble_eq_true rfl) ?_
  refine zz_iconst (v := 1) C ddM_isHeld_15 (by decide) ?_
  refine zz_icmp_ne (tgt := 23) C ddM_isHeld_16 rfl (fun hc => ?_) (fun hc => ?_)
  · replace h := iteF h hc
    refine zz_iconst (v := 0) C ddM_isHeld_23 (by decide) ?_
    refine zz_loc (L1 := []) [] rfl ?_
    exact zBM_isHeld_24 hG C N hD hd E h
  · replace h := iteT h hc
    refine zz_iconst (v := 1) C ddM_isHeld_19 (by decide) ?_
    refine zz_goto (tgt := 24) C ddM_isHeld_20 rfl ?_
    refine zz_loc (L1 := []) [] rfl ?_
    exact zBM_isHeld_24 hG C N hD hd E h
theorem ddM_held_0 : decode cM_held 0 = .ok (.aload_n 0, 1) := by decide +kernel
theorem ddM_held_1 : decode cM_held 1 = .ok (.iload_n 1, 1) := by decide +kernel
theorem ddM_held_2 : decode cM_held 2 = .ok (.invokevirtual 306, 3) := by decide +kernel
theorem ddM_held_5 : decode cM_held 5 = .ok (.ifCond .ne 7, 3) := by decide +kernel
theorem ddM_held_8 : decode cM_held 8 = .ok (.iconst (-1), 1) := by decide +kernel
theorem ddM_held_9 : decode cM_held 9 = .ok (.goto 16, 3) := by decide +kernel
theorem ddM_held_12 : decode cM_held 12 = .ok (.aload_n 0, 1) := by decide +kernel
theorem ddM_held_13 : decode cM_held 13 = .ok (.iload_n 1, 1) := by decide +kernel
theorem ddM_held_14 : decode cM_held 14 = .ok (.invokevirtual 309, 3) := by decide +kernel
theorem ddM_held_17 : decode cM_held 17 = .ok (.ifCond .eq 7, 3) := by decide +kernel
theorem ddM_held_20 : decode cM_held 20 = .ok (.iconst 1, 1) := by decide +kernel
theorem ddM_held_21 : decode cM_held 21 = .ok (.goto 4, 3) := by decide +kernel
theorem ddM_held_24 : decode cM_held 24 = .ok (.iconst 0, 1) := by decide +kernel
theorem ddM_held_25 : decode cM_held 25 = .ok (.ireturn, 1) := by decide +kernel
set_option maxHeartbeats 2000000 in
theorem zBM_held_25 {G : GXM} {X : CxM} (hG : GokM G) (C : CoM G X cM_held "HomeFreedModel") (N : mLM X = 2) {d : Nat} (hD : dpM X = d) (hd : 3 ≤ d)  {q : Int32 × Mem} (E : EnM G X (some .int) (some (.int q.1)) q.2 0 0) {w0 : Int32} {M : Mem} (h : BM_held_25 w0 M = some q) : ZM G X 25 [] [.int w0] M 0 0 := by
  unfold BM_held_25 at h
  obtain rfl := Option.some.inj h
  exact zz_iret C E ddM_held_25
set_option maxHeartbeats 2000000 in
theorem xM_held {G : GXM} {l : Launch} (hG : GokM G) (d : Nat) (hd : 3 ≤ d) {v0 : Nat} {v1 : Int32} {M : Mem} {q : Int32 × Mem} (h : fM_held v0 v1 M = some q) : ExM G l d 0 0 yM_held cM_held 2 (some .int) [.ref v0, .int v1] M (some (.int q.1)) q.2 := by
  refine ex_of hG (by decide) (Nat.le_of_ble_eq_true rfl) ?_
  intro X hl C E N hD hn
  show ZM G X 0 [(0, .ref v0), (1, .int v1)] [] M 0 0
  unfold fM_held at h
  refine zz_aload_n C 0 ddM_held_0 rfl rfl ?_
  refine zz_iload_n C 1 ddM_held_1 rfl rfl ?_
  obtain ⟨h2, h⟩ := gdN h
  obtain ⟨q1, hq1, h⟩ := bindN h
  refine zz_callV0 (As := [.int v1]) C ddM_held_2 wd_1443 my_M_isBlock mv_M_isBlock ⟨_, rfl, rfl⟩ (xM_isBlock hG (d - 1) (by omega) hq1) (by omega) h2 rfl rfl (Nat.le_of_ble_eq_true rfl) ?_
  refine zz_if_ne (tgt := 12) C ddM_held_5 rfl (fun hc => ?_) (fun hc => ?_)
  · replace h := iteF h hc
    refine zz_aload_n C 0 ddM_held_12 rfl rfl ?_
    refine zz_iload_n C 1 ddM_held_13 rfl rfl ?_
    obtain ⟨h4, h⟩ := gdN h
    obtain ⟨q3, hq3, h⟩ := bindN h
    refine zz_callV0 (As := [.int v1]) C ddM_held_14 wd_1447 my_M_isHeld mv_M_isHeld ⟨_, rfl, rfl⟩ (xM_isHeld hG (d - 1) (by omega) hq3) (by omega) h4 rfl rfl (Nat.le_of_ble_eq_true rfl) ?_
    refine zz_if_eq (tgt := 24) C ddM_held_17 rfl (fun hc => ?_) (fun hc => ?_)
    · replace h := iteT h hc
      refine zz_iconst (v := 0) C ddM_held_24 (by decide) ?_
      refine zz_loc (L1 := []) [] rfl ?_
      exact zBM_held_25 hG C N hD hd E h
    · replace h := iteF h hc
      refine zz_iconst (v := 1) C ddM_held_20 (by decide) ?_
      refine zz_goto (tgt := 25) C ddM_held_21 rfl ?_
      refine zz_loc (L1 := []) [] rfl ?_
      exact zBM_held_25 hG C N hD hd E h
  · replace h := iteT h hc
    refine zz_iconst (v := (-1)) C ddM_held_8 (by decide) ?_
    refine zz_goto (tgt := 25) C ddM_held_9 rfl ?_
    refine zz_loc (L1 := []) [] rfl ?_
    exact zBM_held_25 hG C N hD hd E h
theorem ddM_classFor_0 : decode cM_classFor 0 = .ok (.iconst 0, 1) := by decide +kernel
theorem ddM_classFor_1 : decode cM_classFor 1 = .ok (.istore_n 2, 1) := by decide +kernel
theorem ddM_classFor_2 : decode cM_classFor 2 = .ok (.iload_n 2, 1) := by decide +kernel
theorem ddM_classFor_3 : decode cM_classFor 3 = .ok (.aload_n 0, 1) := by decide +kernel
theorem ddM_classFor_4 : decode cM_classFor 4 = .ok (.getfield 144, 3) := by decide +kernel
theorem ddM_classFor_7 : decode cM_classFor 7 = .ok (.if_icmp .ge 21, 3) := by decide +kernel
theorem ddM_classFor_10 : decode cM_classFor 10 = .ok (.aload_n 0, 1) := by decide +kernel
theorem ddM_classFor_11 : decode cM_classFor 11 = .ok (.getfield 22, 3) := by decide +kernel
theorem ddM_classFor_14 : decode cM_classFor 14 = .ok (.iload_n 2, 1) := by decide +kernel
theorem ddM_classFor_15 : decode cM_classFor 15 = .ok (.iaload, 1) := by decide +kernel
theorem ddM_classFor_16 : decode cM_classFor 16 = .ok (.iload_n 1, 1) := by decide +kernel
theorem ddM_classFor_17 : decode cM_classFor 17 = .ok (.if_icmp .lt 5, 3) := by decide +kernel
theorem ddM_classFor_20 : decode cM_classFor 20 = .ok (.iload_n 2, 1) := by decide +kernel
theorem ddM_classFor_21 : decode cM_classFor 21 = .ok (.ireturn, 1) := by decide +kernel
theorem ddM_classFor_22 : decode cM_classFor 22 = .ok (.iinc 2 1, 3) := by decide +kernel
theorem ddM_classFor_25 : decode cM_classFor 25 = .ok (.goto (-23), 3) := by decide +kernel
theorem ddM_classFor_28 : decode cM_classFor 28 = .ok (.iconst (-1), 1) := by decide +kernel
theorem ddM_classFor_29 : decode cM_classFor 29 = .ok (.ireturn, 1) := by decide +kernel
set_option maxHeartbeats 2000000 in
theorem zBM_classFor_2 {G : GXM} {X : CxM} (hG : GokM G) (C : CoM G X cM_classFor "HomeFreedModel") (N : mLM X = 3) {d : Nat} (hD : dpM X = d) (hd : 0 ≤ d) {v0 : Nat} {v1 : Int32} {K : Nat → Int32 → Int32 → Mem → Option ((Int32 × Mem))} {q : (Int32 × Mem)} (hK : ∀ (v2 : Int32) (M : Mem), K v0 v1 v2 M = some q → ZM G X 2 [(0, .ref v0), (1, .int v1), (2, .int v2)] [] M 0 0) (hr : ∀ r : Int32 × Mem, q =  r → EnM G X (some .int) (some (.int r.1)) r.2 0 0) {v2 : Int32} {M : Mem} (h : BM_classFor_2 K v0 v1 v2 M = some q) : ZM G X 2 [(0, .ref v0), (1, .int v1), (2, .int v2)] [] M 0 0 := by
  unfold BM_classFor_2 at h
  refine zz_iload_n C 2 ddM_classFor_2 rfl rfl ?_
  refine zz_aload_n C 0 ddM_classFor_3 rfl rfl ?_
  obtain ⟨h1, h⟩ := gdN h
  refine zz_geti C ddM_classFor_4 fl_M_144 rfl h1 ?_
  refine zz_icmp_ge (tgt := 28) C ddM_classFor_7 rfl (fun hc => ?_) (fun hc => ?_)
  · replace h := iteT h hc
    refine zz_iconst (v := (-1)) C ddM_classFor_28 (by decide) ?_
    exact zz_iret C (hr _ (Option.some.inj h).symm) ddM_classFor_29
  · replace h := iteF h hc
    refine zz_aload_n C 0 ddM_classFor_10 rfl rfl ?_
    obtain ⟨h2, h⟩ := gdN h
    refine zz_getr C ddM_classFor_11 fl_M_22 rfl h1 (of_decide_eq_true h2) ?_
    refine zz_iload_n C 2 ddM_classFor_14 rfl rfl ?_
    obtain ⟨h3, h⟩ := gdN h
    refine zz_iaload C ddM_classFor_15 h3 ?_
    refine zz_iload_n C 1 ddM_classFor_16 rfl rfl ?_
    refine zz_icmp_lt (tgt := 22) C ddM_classFor_17 rfl (fun hc => ?_) (fun hc => ?_)
    · replace h := iteT h hc
      refine zz_iinc (v := v2 + 1) (L1 := [(2, .int (v2 + 1)), (0, .ref v0), (1, .int v1)]) C 2 ddM_classFor_22 rfl rfl N (by decide) rfl ?_
      refine zz_goto (tgt := 2) C ddM_classFor_25 rfl ?_
      refine zz_loc (L1 := [(0, .ref v0), (1, .int v1), (2, .int (v2 + 1))]) [1, 2, 0] rfl ?_
      exact hK _ _ h
    · replace h := iteF h hc
      refine zz_iload_n C 2 ddM_classFor_20 rfl rfl ?_
      exact zz_iret C (hr _ (Option.some.inj h).symm) ddM_classFor_21
set_option maxHeartbeats 2000000 in
theorem zLM_classFor_2 {G : GXM} {X : CxM} (hG : GokM G) (C : CoM G X cM_classFor "HomeFreedModel") (N : mLM X = 3) {d : Nat} (hD : dpM X = d) (hd : 0 ≤ d) {v0 : Nat} {v1 : Int32} {q : (Int32 × Mem)} : ∀ (f : Nat) (v2 : Int32) (M : Mem), LM_classFor_2 f v0 v1 v2 M = some q → (hr : ∀ r : Int32 × Mem, q =  r → EnM G X (some .int) (some (.int r.1)) r.2 0 0) → ZM G X 2 [(0, .ref v0), (1, .int v1), (2, .int v2)] [] M 0 0 := by
  intro f
  induction f with
  | zero => intro v2 M h; cases h
  | succ f ih =>
    intro v2 M h hr
    exact zBM_classFor_2 hG C N hD hd (K := LM_classFor_2 f) (q := q) (fun v2 M h => ih v2 M h hr) hr h
set_option maxHeartbeats 2000000 in
theorem xM_classFor {G : GXM} {l : Launch} (hG : GokM G) (d : Nat) (hd : 0 ≤ d) {v0 : Nat} {v1 : Int32} {M : Mem} {q : Int32 × Mem} (h : fM_classFor v0 v1 M = some q) : ExM G l d 0 0 yM_classFor cM_classFor 3 (some .int) [.ref v0, .int v1] M (some (.int q.1)) q.2 := by
  refine ex_of hG (by decide) (Nat.le_of_ble_eq_true rfl) ?_
  intro X hl C E N hD hn
  show ZM G X 0 [(2, .int v2), (0, .ref v0), (1, .int v1)] [] M 0 0
  unfold fM_classFor at h
  refine zz_iconst (v := 0) C ddM_classFor_0 (by decide) ?_
  refine zz_istore_n (L1 := [(2, .int 0), (0, .ref v0), (1, .int v1)]) C ddM_classFor_1 rfl N (by decide) rfl ?_
  refine zz_loc (L1 := [(0, .ref v0), (1, .int v1), (2, .int 0)]) [1, 2, 0] rfl ?_
  obtain ⟨q1, hq1, h⟩ := bindN h
  refine zLM_classFor_2 hG C N hD hd 1000000 _ _ hq1 ?_
  · intro r2 eq1; subst eq1
    obtain rfl := Option.some.inj h
    exact E
theorem ddM_isAsked_0 : decode cM_isAsked 0 = .ok (.iload_n 1, 1) := by decide +kernel
theorem ddM_isAsked_1 : decode cM_isAsked 1 = .ok (.iconst 1, 1) := by decide +kernel
theorem ddM_isAsked_2 : decode cM_isAsked 2 = .ok (.bipush 40, 2) := by decide +kernel
theorem ddM_isAsked_4 : decode cM_isAsked 4 = .ok (.invokestatic 75, 3) := by decide +kernel
theorem ddM_isAsked_7 : decode cM_isAsked 7 = .ok (.ifCond .eq 16, 3) := by decide +kernel
theorem ddM_isAsked_10 : decode cM_isAsked 10 = .ok (.aload_n 0, 1) := by decide +kernel
theorem ddM_isAsked_11 : decode cM_isAsked 11 = .ok (.iload_n 1, 1) := by decide +kernel
theorem ddM_isAsked_12 : decode cM_isAsked 12 = .ok (.invokevirtual 263, 3) := by decide +kernel
theorem ddM_isAsked_15 : decode cM_isAsked 15 = .ok (.iconst (-1), 1) := by decide +kernel
theorem ddM_isAsked_16 : decode cM_isAsked 16 = .ok (.if_icmp .eq 7, 3) := by decide +kernel
theorem ddM_isAsked_19 : decode cM_isAsked 19 = .ok (.iconst 1, 1) := by decide +kernel
theorem ddM_isAsked_20 : decode cM_isAsked 20 = .ok (.goto 4, 3) := by decide +kernel
theorem ddM_isAsked_23 : decode cM_isAsked 23 = .ok (.iconst 0, 1) := by decide +kernel
theorem ddM_isAsked_24 : decode cM_isAsked 24 = .ok (.ireturn, 1) := by decide +kernel
set_option maxHeartbeats 2000000 in
theorem zBM_isAsked_24 {G : GXM} {X : CxM} (hG : GokM G) (C : CoM G X cM_isAsked "HomeFreedModel") (N : mLM X = 2) {d : Nat} (hD : dpM X = d) (hd : 1 ≤ d)  {q : Int32 × Mem} (E : EnM G X (some .boolean) (some (.int q.1)) q.2 0 0) {w0 : Int32} {M : Mem} (h : BM_isAsked_24 w0 M = some q) : ZM G X 24 [] [.int w0] M 0 0 := by
  unfold BM_isAsked_24 at h
  obtain ⟨h1, h⟩ := gdN h
  obtain rfl := Option.some.inj h
  exact zz_zret C (of_decide_eq_true h1) E ddM_isAsked_24
set_option maxHeartbeats 2000000 in
theorem zBM_isAsked_23 {G : GXM} {X : CxM} (hG : GokM G) (C : CoM G X cM_isAsked "HomeFreedModel") (N : mLM X = 2) {d : Nat} (hD : dpM X = d) (hd : 1 ≤ d)  {q : Int32 × Mem} (E : EnM G X (some .boolean) (some (.int q.1)) q.2 0 0) {M : Mem} (h : BM_isAsked_23 M = some q) : ZM G X 23 [] [] M 0 0 := by
  unfold BM_isAsked_23 at h
  refine zz_iconst (v := 0) C ddM_isAsked_23 (by decide) ?_
  exact zBM_isAsked_24 hG C N hD hd E h
set_option maxHeartbeats 2000000 in
theorem xM_isAsked {G : GXM} {l : Launch} (hG : GokM G) (d : Nat) (hd : 1 ≤ d) {v0 : Nat} {v1 : Int32} {M : Mem} {q : Int32 × Mem} (h : fM_isAsked v0 v1 M = some q) : ExM G l d 0 0 yM_isAsked cM_isAsked 2 (some .boolean) [.ref v0, .int v1] M (some (.int q.1)) q.2 := by
  refine ex_of hG (by decide) (Nat.le_of_ble_eq_true rfl) ?_
  intro X hl C E N hD hn
  show ZM G X 0 [(0, .ref v0), (1, .int v1)] [] M 0 0
  unfold fM_isAsked at h
  refine zz_iload_n C 1 ddM_isAsked_0 rfl rfl ?_
  refine zz_iconst (v := 1) C ddM_isAsked_1 (by decide) ?_
  refine zz_bipush (v := 40) C ddM_isAsked_2 (by decide) ?_
  obtain ⟨q1, hq1, h⟩ := bindN h
  refine zz_callS0 (As := [.int v1, .int 1, .int 40]) C ddM_isAsked_4 wd_1289 my_M_in mv_M_in (xM_in hG (d - 1) (by omega) hq1) (by omega) rfl rfl (Nat.le_of_ble_eq_true rfl) ?_
  refine zz_if_eq (tgt := 23) C ddM_isAsked_7 rfl (fun hc => ?_) (fun hc => ?_)
  · replace h := iteT h hc
    refine zz_loc (L1 := []) [] rfl ?_
    exact zBM_isAsked_23 hG C N hD hd E h
  · replace h := iteF h hc
    refine zz_aload_n C 0 ddM_isAsked_10 rfl rfl ?_
    refine zz_iload_n C 1 ddM_isAsked_11 rfl rfl ?_
    obtain ⟨h3, h⟩ := gdN h
    obtain ⟨q2, hq2, h⟩ := bindN h
    refine zz_callV0 (As := [.int v1]) C ddM_isAsked_12 wd_1459 my_M_classFor mv_M_classFor ⟨_, rfl, rfl⟩ (xM_classFor hG (d - 1) (by omega) hq2) (by omega) h3 rfl rfl (Nat.le_of_ble_eq_true rfl) ?_
    refine zz_iconst (v := (-1)) C ddM_isAsked_15 (by decide) ?_
    refine zz_icmp_eq (tgt := 23) C ddM_isAsked_16 rfl (fun hc => ?_) (fun hc => ?_)
    · replace h := iteT h hc
      refine zz_loc (L1 := []) [] rfl ?_
      exact zBM_isAsked_23 hG C N hD hd E h
    · replace h := iteF h hc
      refine zz_iconst (v := 1) C ddM_isAsked_19 (by decide) ?_
      refine zz_goto (tgt := 24) C ddM_isAsked_20 rfl ?_
      refine zz_loc (L1 := []) [] rfl ?_
      exact zBM_isAsked_24 hG C N hD hd E h
theorem ddM_doesLive_0 : decode cM_doesLive 0 = .ok (.aload_n 0, 1) := by decide +kernel
theorem ddM_doesLive_1 : decode cM_doesLive 1 = .ok (.iload_n 1, 1) := by decide +kernel
theorem ddM_doesLive_2 : decode cM_doesLive 2 = .ok (.invokevirtual 163, 3) := by decide +kernel
theorem ddM_doesLive_5 : decode cM_doesLive 5 = .ok (.ifCond .eq 21, 3) := by decide +kernel
theorem ddM_doesLive_8 : decode cM_doesLive 8 = .ok (.aload_n 0, 1) := by decide +kernel
theorem ddM_doesLive_9 : decode cM_doesLive 9 = .ok (.getfield 31, 3) := by decide +kernel
theorem ddM_doesLive_12 : decode cM_doesLive 12 = .ok (.sipush 3704, 3) := by decide +kernel
theorem ddM_doesLive_15 : decode cM_doesLive 15 = .ok (.iload_n 1, 1) := by decide +kernel
theorem ddM_doesLive_16 : decode cM_doesLive 16 = .ok (.iadd, 1) := by decide +kernel
theorem ddM_doesLive_17 : decode cM_doesLive 17 = .ok (.iaload, 1) := by decide +kernel
theorem ddM_doesLive_18 : decode cM_doesLive 18 = .ok (.iconst 1, 1) := by decide +kernel
theorem ddM_doesLive_19 : decode cM_doesLive 19 = .ok (.if_icmp .ne 7, 3) := by decide +kernel
theorem ddM_doesLive_22 : decode cM_doesLive 22 = .ok (.iconst 1, 1) := by decide +kernel
theorem ddM_doesLive_23 : decode cM_doesLive 23 = .ok (.goto 4, 3) := by decide +kernel
theorem ddM_doesLive_26 : decode cM_doesLive 26 = .ok (.iconst 0, 1) := by decide +kernel
theorem ddM_doesLive_27 : decode cM_doesLive 27 = .ok (.ireturn, 1) := by decide +kernel
set_option maxHeartbeats 2000000 in
theorem zBM_doesLive_27 {G : GXM} {X : CxM} (hG : GokM G) (C : CoM G X cM_doesLive "HomeFreedModel") (N : mLM X = 2) {d : Nat} (hD : dpM X = d) (hd : 2 ≤ d)  {q : Int32 × Mem} (E : EnM G X (some .boolean) (some (.int q.1)) q.2 0 0) {w0 : Int32} {M : Mem} (h : BM_doesLive_27 w0 M = some q) : ZM G X 27 [] [.int w0] M 0 0 := by
  unfold BM_doesLive_27 at h
  obtain ⟨h1, h⟩ := gdN h
  obtain rfl := Option.some.inj h
  exact zz_zret C (of_decide_eq_true h1) E ddM_doesLive_27
set_option maxHeartbeats 2000000 in
theorem zBM_doesLive_26 {G : GXM} {X : CxM} (hG : GokM G) (C : CoM G X cM_doesLive "HomeFreedModel") (N : mLM X = 2) {d : Nat} (hD : dpM X = d) (hd : 2 ≤ d)  {q : Int32 × Mem} (E : EnM G X (some .boolean) (some (.int q.1)) q.2 0 0) {M : Mem} (h : BM_doesLive_26 M = some q) : ZM G X 26 [] [] M 0 0 := by
  unfold BM_doesLive_26 at h
  refine zz_iconst (v := 0) C ddM_doesLive_26 (by decide) ?_
  exact zBM_doesLive_27 hG C N hD hd E h
set_option maxHeartbeats 2000000 in
theorem xM_doesLive {G : GXM} {l : Launch} (hG : GokM G) (d : Nat) (hd : 2 ≤ d) {v0 : Nat} {v1 : Int32} {M : Mem} {q : Int32 × Mem} (h : fM_doesLive v0 v1 M = some q) : ExM G l d 0 0 yM_doesLive cM_doesLive 2 (some .boolean) [.ref v0, .int v1] M (some (.int q.1)) q.2 := by
  refine ex_of hG (by decide) (Nat.le_of_ble_eq_true rfl) ?_
  intro X hl C E N hD hn
  show ZM G X 0 [(0, .ref v0), (1, .int v1)] [] M 0 0
  unfold fM_doesLive at h
  refine zz_aload_n C 0 ddM_doesLive_0 rfl rfl ?_
  refine zz_iload_n C 1 ddM_doesLive_1 rfl rfl ?_
  obtain ⟨h2, h⟩ := gdN h
  obtain ⟨q1, hq1, h⟩ := bindN h
  refine zz_callV0 (As := [.int v1]) C ddM_doesLive_2 wd_1409 my_M_isThread mv_M_isThread ⟨_, rfl, rfl⟩ (xM_isThread hG (d - 1) (by omega) hq1) (by omega) h2 rfl rfl (Nat.le_of_ble_eq_true rfl) ?_
  refine zz_if_eq (tgt := 26) C ddM_doesLive_5 rfl (fun hc => ?_) (fun hc => ?_)
  · replace h := iteT h hc
    refine zz_loc (L1 := []) [] rfl ?_
    exact zBM_doesLive_26 hG C N hD hd E h
  · replace h := iteF h hc
    refine zz_aload_n C 0 ddM_doesLive_8 rfl rfl ?_
    obtain ⟨h3, h⟩ := gdN h
    obtain ⟨h4, h⟩ := gdN h
    refine zz_getr C ddM_doesLive_9 fl_M_31 rfl h3 (of_decide_eq_true h4) ?_
    refine zz_sipush (v := 3704) C ddM_doesLive_12 (by decide) ?_
    refine zz_iload_n C 1 ddM_doesLive_15 rfl rfl ?_
    refine zz_iadd C ddM_doesLive_16 ?_
    obtain ⟨h5, h⟩ := gdN h
    refine zz_iaload C ddM_doesLive_17 h5 ?_
    refine zz_iconst (v := 1) C ddM_doesLive_18 (by decide) ?_
    refine zz_icmp_ne (tgt := 26) C ddM_doesLive_19 rfl (fun hc => ?_) (fun hc => ?_)
    · replace h := iteF h hc
      refine zz_loc (L1 := []) [] rfl ?_
      exact zBM_doesLive_26 hG C N hD hd E h
    · replace h := iteT h hc
      refine zz_iconst (v := 1) C ddM_doesLive_22 (by decide) ?_
      refine zz_goto (tgt := 27) C ddM_doesLive_23 rfl ?_
      refine zz_loc (L1 := []) [] rfl ?_
      exact zBM_doesLive_27 hG C N hD hd E h
theorem ddM_otherPage_0 : decode cM_otherPage 0 = .ok (.iconst 0, 1) := by decide +kernel
theorem ddM_otherPage_1 : decode cM_otherPage 1 = .ok (.istore_n 3, 1) := by decide +kernel
theorem ddM_otherPage_2 : decode cM_otherPage 2 = .ok (.iload_n 3, 1) := by decide +kernel
theorem ddM_otherPage_3 : decode cM_otherPage 3 = .ok (.aload_n 0, 1) := by decide +kernel
theorem ddM_otherPage_4 : decode cM_otherPage 4 = .ok (.getfield 19, 3) := by decide +kernel
theorem ddM_otherPage_7 : decode cM_otherPage 7 = .ok (.iconst 1, 1) := by decide +kernel
theorem ddM_otherPage_8 : decode cM_otherPage 8 = .ok (.iaload, 1) := by decide +kernel
theorem ddM_otherPage_9 : decode cM_otherPage 9 = .ok (.if_icmp .ge 72, 3) := by decide +kernel
theorem ddM_otherPage_12 : decode cM_otherPage 12 = .ok (.iload_n 2, 1) := by decide +kernel
theorem ddM_otherPage_13 : decode cM_otherPage 13 = .ok (.ifCond .eq 39, 3) := by decide +kernel
theorem ddM_otherPage_16 : decode cM_otherPage 16 = .ok (.aload_n 0, 1) := by decide +kernel
theorem ddM_otherPage_17 : decode cM_otherPage 17 = .ok (.iload_n 3, 1) := by decide +kernel
theorem ddM_otherPage_18 : decode cM_otherPage 18 = .ok (.iconst 0, 1) := by decide +kernel
theorem ddM_otherPage_19 : decode cM_otherPage 19 = .ok (.invokevirtual 170, 3) := by decide +kernel
theorem ddM_otherPage_22 : decode cM_otherPage 22 = .ok (.iconst 3, 1) := by decide +kernel
theorem ddM_otherPage_23 : decode cM_otherPage 23 = .ok (.if_icmp .ne 25, 3) := by decide +kernel
theorem ddM_otherPage_26 : decode cM_otherPage 26 = .ok (.aload_n 0, 1) := by decide +kernel
theorem ddM_otherPage_27 : decode cM_otherPage 27 = .ok (.iload_n 3, 1) := by decide +kernel
theorem ddM_otherPage_28 : decode cM_otherPage 28 = .ok (.iconst 2, 1) := by decide +kernel
theorem ddM_otherPage_29 : decode cM_otherPage 29 = .ok (.invokevirtual 170, 3) := by decide +kernel
theorem ddM_otherPage_32 : decode cM_otherPage 32 = .ok (.iload_n 1, 1) := by decide +kernel
theorem ddM_otherPage_33 : decode cM_otherPage 33 = .ok (.if_icmp .ne 15, 3) := by decide +kernel
theorem ddM_otherPage_36 : decode cM_otherPage 36 = .ok (.aload_n 0, 1) := by decide +kernel
theorem ddM_otherPage_37 : decode cM_otherPage 37 = .ok (.iload_n 3, 1) := by decide +kernel
theorem ddM_otherPage_38 : decode cM_otherPage 38 = .ok (.invokevirtual 179, 3) := by decide +kernel
theorem ddM_otherPage_41 : decode cM_otherPage 41 = .ok (.ifCond .le 7, 3) := by decide +kernel
theorem ddM_otherPage_44 : decode cM_otherPage 44 = .ok (.iconst 1, 1) := by decide +kernel
theorem ddM_otherPage_45 : decode cM_otherPage 45 = .ok (.goto 21, 3) := by decide +kernel
theorem ddM_otherPage_48 : decode cM_otherPage 48 = .ok (.iconst 0, 1) := by decide +kernel
theorem ddM_otherPage_49 : decode cM_otherPage 49 = .ok (.goto 17, 3) := by decide +kernel
theorem ddM_otherPage_52 : decode cM_otherPage 52 = .ok (.aload_n 0, 1) := by decide +kernel
theorem ddM_otherPage_53 : decode cM_otherPage 53 = .ok (.iload_n 3, 1) := by decide +kernel
theorem ddM_otherPage_54 : decode cM_otherPage 54 = .ok (.iconst 0, 1) := by decide +kernel
theorem ddM_otherPage_55 : decode cM_otherPage 55 = .ok (.invokevirtual 170, 3) := by decide +kernel
theorem ddM_otherPage_58 : decode cM_otherPage 58 = .ok (.ifCond .ne 7, 3) := by decide +kernel
theorem ddM_otherPage_61 : decode cM_otherPage 61 = .ok (.iconst 1, 1) := by decide +kernel
theorem ddM_otherPage_62 : decode cM_otherPage 62 = .ok (.goto 4, 3) := by decide +kernel
theorem ddM_otherPage_65 : decode cM_otherPage 65 = .ok (.iconst 0, 1) := by decide +kernel
theorem ddM_otherPage_66 : decode cM_otherPage 66 = .ok (.istore 4, 2) := by decide +kernel
theorem ddM_otherPage_68 : decode cM_otherPage 68 = .ok (.iload 4, 2) := by decide +kernel
theorem ddM_otherPage_70 : decode cM_otherPage 70 = .ok (.ifCond .eq 5, 3) := by decide +kernel
theorem ddM_otherPage_73 : decode cM_otherPage 73 = .ok (.iload_n 3, 1) := by decide +kernel
theorem ddM_otherPage_74 : decode cM_otherPage 74 = .ok (.ireturn, 1) := by decide +kernel
theorem ddM_otherPage_75 : decode cM_otherPage 75 = .ok (.iinc 3 1, 3) := by decide +kernel
theorem ddM_otherPage_78 : decode cM_otherPage 78 = .ok (.goto (-76), 3) := by decide +kernel
theorem ddM_otherPage_81 : decode cM_otherPage 81 = .ok (.iconst (-1), 1) := by decide +kernel
theorem ddM_otherPage_82 : decode cM_otherPage 82 = .ok (.ireturn, 1) := by decide +kernel
set_option maxHeartbeats 2000000 in
theorem zBM_otherPage_66 {G : GXM} {X : CxM} (hG : GokM G) (C : CoM G X cM_otherPage "HomeFreedModel") (N : mLM X = 5) {d : Nat} (hD : dpM X = d) (hd : 2 ≤ d) {v0 : Nat} {v1 : Int32} {v2 : Int32} {K : Nat → Int32 → Int32 → Int32 → Mem → Option ((Int32 × Mem))} {q : (Int32 × Mem)} (hK : ∀ (v3 : Int32) (M : Mem), K v0 v1 v2 v3 M = some q → ZM G X 2 [(0, .ref v0), (1, .int v1), (2, .int v2), (3, .int v3)] [] M 0 0) (hr : ∀ r : Int32 × Mem, q =  r → EnM G X (some .int) (some (.int r.1)) r.2 0 0) {v3 : Int32} {w0 : Int32} {M : Mem} (h : BM_otherPage_66 K v0 v1 v2 v3 w0 M = some q) : ZM G X 66 [(0, .ref v0), (1, .int v1), (2, .int v2), (3, .int v3)] [.int w0] M 0 0 := by
  unfold BM_otherPage_66 at h
  refine zz_istore (L1 := [(4, .int w0), (0, .ref v0), (1, .int v1), (2, .int v2), (3, .int v3)]) C ddM_otherPage_66 N (by decide) rfl ?_
  refine zz_iload C 0 ddM_otherPage_68 rfl ?_
  refine zz_if_eq (tgt := 75) C ddM_otherPage_70 rfl (fun hc => ?_) (fun hc => ?_)
  · replace h := iteT h hc
    refine zz_iinc (v := v3 + 1) (L1 := [(3, .int (v3 + 1)), (4, .int w0), (0, .ref v0), (1, .int v1), (2, .int v2)]) C 4 ddM_otherPage_75 rfl rfl N (by decide) rfl ?_
    refine zz_goto (tgt := 2) C ddM_otherPage_78 rfl ?_
    refine zz_loc (L1 := [(0, .ref v0), (1, .int v1), (2, .int v2), (3, .int (v3 + 1))]) [2, 3, 4, 0] rfl ?_
    exact hK _ _ h
  · replace h := iteF h hc
    refine zz_iload_n C 4 ddM_otherPage_73 rfl rfl ?_
    exact zz_iret C (hr _ (Option.some.inj h).symm) ddM_otherPage_74
set_option maxHeartbeats 2000000 in
theorem zBM_otherPage_48 {G : GXM} {X : CxM} (hG : GokM G) (C : CoM G X cM_otherPage "HomeFreedModel") (N : mLM X = 5) {d : Nat} (hD : dpM X = d) (hd : 2 ≤ d) {v0 : Nat} {v1 : Int32} {v2 : Int32} {K : Nat → Int32 → Int32 → Int32 → Mem → Option ((Int32 × Mem))} {q : (Int32 × Mem)} (hK : ∀ (v3 : Int32) (M : Mem), K v0 v1 v2 v3 M = some q → ZM G X 2 [(0, .ref v0), (1, .int v1), (2, .int v2), (3, .int v3)] [] M 0 0) (hr : ∀ r : Int32 × Mem, q =  r → EnM G X (some .int) (some (.int r.1)) r.2 0 0) {v3 : Int32} {M : Mem} (h : BM_otherPage_48 K v0 v1 v2 v3 M = some q) : ZM G X 48 [(0, .ref v0), (1, .int v1), (2, .int v2), (3, .int v3)] [] M 0 0 := by
  unfold BM_otherPage_48 at h
  refine zz_iconst (v := 0) C ddM_otherPage_48 (by decide) ?_
  refine zz_goto (tgt := 66) C ddM_otherPage_49 rfl ?_
  exact zBM_otherPage_66 hG C N hD hd hK hr h
set_option maxHeartbeats 2000000 in
theorem zBM_otherPage_2 {G : GXM} {X : CxM} (hG : GokM G) (C : CoM G X cM_otherPage "HomeFreedModel") (N : mLM X = 5) {d : Nat} (hD : dpM X = d) (hd : 2 ≤ d) {v0 : Nat} {v1 : Int32} {v2 : Int32} {K : Nat → Int32 → Int32 → Int32 → Mem → Option ((Int32 × Mem))} {q : (Int32 × Mem)} (hK : ∀ (v3 : Int32) (M : Mem), K v0 v1 v2 v3 M = some q → ZM G X 2 [(0, .ref v0), (1, .int v1), (2, .int v2), (3, .int v3)] [] M 0 0) (hr : ∀ r : Int32 × Mem, q =  r → EnM G X (some .int) (some (.int r.1)) r.2 0 0) {v3 : Int32} {M : Mem} (h : BM_otherPage_2 K v0 v1 v2 v3 M = some q) : ZM G X 2 [(0, .ref v0), (1, .int v1), (2, .int v2), (3, .int v3)] [] M 0 0 := by
  unfold BM_otherPage_2 at h
  refine zz_iload_n C 3 ddM_otherPage_2 rfl rfl ?_
  refine zz_aload_n C 0 ddM_otherPage_3 rfl rfl ?_
  obtain ⟨h1, h⟩ := gdN h
  obtain ⟨h2, h⟩ := gdN h
  refine zz_getr C ddM_otherPage_4 fl_M_19 rfl h1 (of_decide_eq_true h2) ?_
  refine zz_iconst (v := 1) C ddM_otherPage_7 (by decide) ?_
  obtain ⟨h3, h⟩ := gdN h
  refine zz_iaload C ddM_otherPage_8 h3 ?_
  refine zz_icmp_ge (tgt := 81) C ddM_otherPage_9 rfl (fun hc => ?_) (fun hc => ?_)
  · replace h := iteT h hc
    refine zz_iconst (v := (-1)) C ddM_otherPage_81 (by decide) ?_
    exact zz_iret C (hr _ (Option.some.inj h).symm) ddM_otherPage_82
  · replace h := iteF h hc
    refine zz_iload_n C 2 ddM_otherPage_12 rfl rfl ?_
    refine zz_if_eq (tgt := 52) C ddM_otherPage_13 rfl (fun hc => ?_) (fun hc => ?_)
    · replace h := iteT h hc
      refine zz_aload_n C 0 ddM_otherPage_52 rfl rfl ?_
      refine zz_iload_n C 3 ddM_otherPage_53 rfl rfl ?_
      refine zz_iconst (v := 0) C ddM_otherPage_54 (by decide) ?_
      obtain ⟨q4, hq4, h⟩ := bindN h
      refine zz_callV0 (As := [.int v3, .int 0]) C ddM_otherPage_55 wd_1378 my_M_of mv_M_of ⟨_, rfl, rfl⟩ (xM_of hG (d - 1) (by omega) hq4) (by omega) h1 rfl rfl (Nat.le_of_ble_eq_true rfl) ?_
      refine zz_if_ne (tgt := 65) C ddM_otherPage_58 rfl (fun hc => ?_) (fun hc => ?_)
      · replace h := iteF h hc
        refine zz_iconst (v := 0) C ddM_otherPage_65 (by decide) ?_
        exact zBM_otherPage_66 hG C N hD hd hK hr h
      · replace h := iteT h hc
        refine zz_iconst (v := 1) C ddM_otherPage_61 (by decide) ?_
        refine zz_goto (tgt := 66) C ddM_otherPage_62 rfl ?_
        exact zBM_otherPage_66 hG C N hD hd hK hr h
    · replace h := iteF h hc
      refine zz_aload_n C 0 ddM_otherPage_16 rfl rfl ?_
      refine zz_iload_n C 3 ddM_otherPage_17 rfl rfl ?_
      refine zz_iconst (v := 0) C ddM_otherPage_18 (by decide) ?_
      obtain ⟨q5, hq5, h⟩ := bindN h
      refine zz_callV0 (As := [.int v3, .int 0]) C ddM_otherPage_19 wd_1378 my_M_of mv_M_of ⟨_, rfl, rfl⟩ (xM_of hG (d - 1) (by omega) hq5) (by omega) h1 rfl rfl (Nat.le_of_ble_eq_true rfl) ?_
      refine zz_iconst (v := 3) C ddM_otherPage_22 (by decide) ?_
      refine zz_icmp_ne (tgt := 48) C ddM_otherPage_23 rfl (fun hc => ?_) (fun hc => ?_)
      · replace h := iteF h hc
        exact zBM_otherPage_48 hG C N hD hd hK hr h
      · replace h := iteT h hc
        refine zz_aload_n C 0 ddM_otherPage_26 rfl rfl ?_
        refine zz_iload_n C 3 ddM_otherPage_27 rfl rfl ?_
        refine zz_iconst (v := 2) C ddM_otherPage_28 (by decide) ?_
        obtain ⟨h7, h⟩ := gdN h
        obtain ⟨q6, hq6, h⟩ := bindN h
        refine zz_callV0 (As := [.int v3, .int 2]) C ddM_otherPage_29 wd_1378 my_M_of mv_M_of ⟨_, rfl, rfl⟩ (xM_of hG (d - 1) (by omega) hq6) (by omega) h7 rfl rfl (Nat.le_of_ble_eq_true rfl) ?_
        refine zz_iload_n C 1 ddM_otherPage_32 rfl rfl ?_
        refine zz_icmp_ne (tgt := 48) C ddM_otherPage_33 rfl (fun hc => ?_) (fun hc => ?_)
        · replace h := iteF h hc
          exact zBM_otherPage_48 hG C N hD hd hK hr h
        · replace h := iteT h hc
          refine zz_aload_n C 0 ddM_otherPage_36 rfl rfl ?_
          refine zz_iload_n C 3 ddM_otherPage_37 rfl rfl ?_
          obtain ⟨h9, h⟩ := gdN h
          obtain ⟨q8, hq8, h⟩ := bindN h
          refine zz_callV0 (As := [.int v3]) C ddM_otherPage_38 wd_1394 my_M_listedOf mv_M_listedOf ⟨_, rfl, rfl⟩ (xM_listedOf hG (d - 1) (by omega) hq8) (by omega) h9 rfl rfl (Nat.le_of_ble_eq_true rfl) ?_
          refine zz_if_le (tgt := 48) C ddM_otherPage_41 rfl (fun hc => ?_) (fun hc => ?_)
          · replace h := iteT h hc
            exact zBM_otherPage_48 hG C N hD hd hK hr h
          · replace h := iteF h hc
            refine zz_iconst (v := 1) C ddM_otherPage_44 (by decide) ?_
            refine zz_goto (tgt := 66) C ddM_otherPage_45 rfl ?_
            exact zBM_otherPage_66 hG C N hD hd hK hr h
set_option maxHeartbeats 2000000 in
theorem zLM_otherPage_2 {G : GXM} {X : CxM} (hG : GokM G) (C : CoM G X cM_otherPage "HomeFreedModel") (N : mLM X = 5) {d : Nat} (hD : dpM X = d) (hd : 2 ≤ d) {v0 : Nat} {v1 : Int32} {v2 : Int32} {q : (Int32 × Mem)} : ∀ (f : Nat) (v3 : Int32) (M : Mem), LM_otherPage_2 f v0 v1 v2 v3 M = some q → (hr : ∀ r : Int32 × Mem, q =  r → EnM G X (some .int) (some (.int r.1)) r.2 0 0) → ZM G X 2 [(0, .ref v0), (1, .int v1), (2, .int v2), (3, .int v3)] [] M 0 0 := by
  intro f
  induction f with
  | zero => intro v3 M h; cases h
  | succ f ih =>
    intro v3 M h hr
    exact zBM_otherPage_2 hG C N hD hd (K := LM_otherPage_2 f) (q := q) (fun v3 M h => ih v3 M h hr) hr h
set_option maxHeartbeats 2000000 in
theorem xM_otherPage {G : GXM} {l : Launch} (hG : GokM G) (d : Nat) (hd : 2 ≤ d) {v0 : Nat} {v1 : Int32} {v2 : Int32} {M : Mem} {q : Int32 × Mem} (h : fM_otherPage v0 v1 v2 M = some q) : ExM G l d 0 0 yM_otherPage cM_otherPage 5 (some .int) [.ref v0, .int v1, .int v2] M (some (.int q.1)) q.2 := by
  refine ex_of hG (by decide) (Nat.le_of_ble_eq_true rfl) ?_
  intro X hl C E N hD hn
  show ZM G X 0 [(3, .int v3), (0, .ref v0), (1, .int v1), (2, .int v2)] [] M 0 0
  unfold fM_otherPage at h
  refine zz_iconst (v := 0) C ddM_otherPage_0 (by decide) ?_
  refine zz_istore_n (L1 := [(3, .int 0), (0, .ref v0), (1, .int v1), (2, .int v2)]) C ddM_otherPage_1 rfl N (by decide) rfl ?_
  refine zz_loc (L1 := [(0, .ref v0), (1, .int v1), (2, .int v2), (3, .int 0)]) [1, 2, 3, 0] rfl ?_
  obtain ⟨q1, hq1, h⟩ := bindN h
  refine zLM_otherPage_2 hG C N hD hd 1000000 _ _ hq1 ?_
  · intro r2 eq1; subst eq1
    obtain rfl := Option.some.inj h
    exact E
theorem ddM_canGet_0 : decode cM_canGet 0 = .ok (.iload_n 1, 1) := by decide +kernel
theorem ddM_canGet_1 : decode cM_canGet 1 = .ok (.iload_n 2, 1) := by decide +kernel
theorem ddM_canGet_2 : decode cM_canGet 2 = .ok (.invokestatic 182, 3) := by decide +kernel
theorem ddM_canGet_5 : decode cM_canGet 5 = .ok (.istore_n 3, 1) := by decide +kernel
theorem ddM_canGet_6 : decode cM_canGet 6 = .ok (.iconst 1, 1) := by decide +kernel
theorem ddM_canGet_7 : decode cM_canGet 7 = .ok (.istore 4, 2) := by decide +kernel
theorem ddM_canGet_9 : decode cM_canGet 9 = .ok (.iload 4, 2) := by decide +kernel
theorem ddM_canGet_11 : decode cM_canGet 11 = .ok (.aload_n 0, 1) := by decide +kernel
theorem ddM_canGet_12 : decode cM_canGet 12 = .ok (.getfield 31, 3) := by decide +kernel
theorem ddM_canGet_15 : decode cM_canGet 15 = .ok (.iload_n 3, 1) := by decide +kernel
theorem ddM_canGet_16 : decode cM_canGet 16 = .ok (.iaload, 1) := by decide +kernel
theorem ddM_canGet_17 : decode cM_canGet 17 = .ok (.if_icmp .gt 27, 3) := by decide +kernel
theorem ddM_canGet_20 : decode cM_canGet 20 = .ok (.aload_n 0, 1) := by decide +kernel
theorem ddM_canGet_21 : decode cM_canGet 21 = .ok (.aload_n 0, 1) := by decide +kernel
theorem ddM_canGet_22 : decode cM_canGet 22 = .ok (.getfield 31, 3) := by decide +kernel
theorem ddM_canGet_25 : decode cM_canGet 25 = .ok (.iload_n 3, 1) := by decide +kernel
theorem ddM_canGet_26 : decode cM_canGet 26 = .ok (.iload 4, 2) := by decide +kernel
theorem ddM_canGet_28 : decode cM_canGet 28 = .ok (.iadd, 1) := by decide +kernel
theorem ddM_canGet_29 : decode cM_canGet 29 = .ok (.iaload, 1) := by decide +kernel
theorem ddM_canGet_30 : decode cM_canGet 30 = .ok (.invokevirtual 179, 3) := by decide +kernel
theorem ddM_canGet_33 : decode cM_canGet 33 = .ok (.ifCond .le 5, 3) := by decide +kernel
theorem ddM_canGet_36 : decode cM_canGet 36 = .ok (.iconst 1, 1) := by decide +kernel
theorem ddM_canGet_37 : decode cM_canGet 37 = .ok (.ireturn, 1) := by decide +kernel
theorem ddM_canGet_38 : decode cM_canGet 38 = .ok (.iinc 4 1, 3) := by decide +kernel
theorem ddM_canGet_41 : decode cM_canGet 41 = .ok (.goto (-32), 3) := by decide +kernel
theorem ddM_canGet_44 : decode cM_canGet 44 = .ok (.aload_n 0, 1) := by decide +kernel
theorem ddM_canGet_45 : decode cM_canGet 45 = .ok (.iload_n 2, 1) := by decide +kernel
theorem ddM_canGet_46 : decode cM_canGet 46 = .ok (.iconst 1, 1) := by decide +kernel
theorem ddM_canGet_47 : decode cM_canGet 47 = .ok (.invokevirtual 207, 3) := by decide +kernel
theorem ddM_canGet_50 : decode cM_canGet 50 = .ok (.iconst (-1), 1) := by decide +kernel
theorem ddM_canGet_51 : decode cM_canGet 51 = .ok (.if_icmp .ne 13, 3) := by decide +kernel
theorem ddM_canGet_54 : decode cM_canGet 54 = .ok (.aload_n 0, 1) := by decide +kernel
theorem ddM_canGet_55 : decode cM_canGet 55 = .ok (.iload_n 2, 1) := by decide +kernel
theorem ddM_canGet_56 : decode cM_canGet 56 = .ok (.iconst 0, 1) := by decide +kernel
theorem ddM_canGet_57 : decode cM_canGet 57 = .ok (.invokevirtual 207, 3) := by decide +kernel
theorem ddM_canGet_60 : decode cM_canGet 60 = .ok (.iconst (-1), 1) := by decide +kernel
theorem ddM_canGet_61 : decode cM_canGet 61 = .ok (.if_icmp .eq 7, 3) := by decide +kernel
theorem ddM_canGet_64 : decode cM_canGet 64 = .ok (.iconst 1, 1) := by decide +kernel
theorem ddM_canGet_65 : decode cM_canGet 65 = .ok (.goto 4, 3) := by decide +kernel
theorem ddM_canGet_68 : decode cM_canGet 68 = .ok (.iconst 0, 1) := by decide +kernel
theorem ddM_canGet_69 : decode cM_canGet 69 = .ok (.ireturn, 1) := by decide +kernel
set_option maxHeartbeats 2000000 in
theorem zBM_canGet_69 {G : GXM} {X : CxM} (hG : GokM G) (C : CoM G X cM_canGet "HomeFreedModel") (N : mLM X = 5) {d : Nat} (hD : dpM X = d) (hd : 3 ≤ d)  {q : Int32 × Mem} (E : EnM G X (some .boolean) (some (.int q.1)) q.2 0 0) {w0 : Int32} {M : Mem} (h : BM_canGet_69 w0 M = some q) : ZM G X 69 [] [.int w0] M 0 0 := by
  unfold BM_canGet_69 at h
  obtain ⟨h1, h⟩ := gdN h
  obtain rfl := Option.some.inj h
  exact zz_zret C (of_decide_eq_true h1) E ddM_canGet_69
set_option maxHeartbeats 2000000 in
theorem zBM_canGet_64 {G : GXM} {X : CxM} (hG : GokM G) (C : CoM G X cM_canGet "HomeFreedModel") (N : mLM X = 5) {d : Nat} (hD : dpM X = d) (hd : 3 ≤ d)  {q : Int32 × Mem} (E : EnM G X (some .boolean) (some (.int q.1)) q.2 0 0) {M : Mem} (h : BM_canGet_64 M = some q) : ZM G X 64 [] [] M 0 0 := by
  unfold BM_canGet_64 at h
  refine zz_iconst (v := 1) C ddM_canGet_64 (by decide) ?_
  refine zz_goto (tgt := 69) C ddM_canGet_65 rfl ?_
  exact zBM_canGet_69 hG C N hD hd E h
set_option maxHeartbeats 2000000 in
theorem zBM_canGet_9 {G : GXM} {X : CxM} (hG : GokM G) (C : CoM G X cM_canGet "HomeFreedModel") (N : mLM X = 5) {d : Nat} (hD : dpM X = d) (hd : 3 ≤ d) {v0 : Nat} {v2 : Int32} {v3 : Int32} {K : Nat → Int32 → Int32 → Int32 → Mem → Option ((Int32 × Mem) ⊕ (Mem))} {q : (Int32 × Mem) ⊕ (Mem)} (hK : ∀ (v4 : Int32) (M : Mem), K v0 v2 v3 v4 M = some q → ZM G X 9 [(0, .ref v0), (2, .int v2), (3, .int v3), (4, .int v4)] [] M 0 0) (hr : ∀ r : Int32 × Mem, q = .inl r → EnM G X (some .boolean) (some (.int r.1)) r.2 0 0) (hx0 : ∀ y : Mem, q = (.inr y) → ZM G X 44 [(0, .ref v0), (2, .int v2)] [] y 0 0) {v4 : Int32} {M : Mem} (h : BM_canGet_9 K v0 v2 v3 v4 M = some q) : ZM G X 9 [(0, .ref v0), (2, .int v2), (3, .int v3), (4, .int v4)] [] M 0 0 := by
  unfold BM_canGet_9 at h
  refine zz_iload C 3 ddM_canGet_9 rfl ?_
  refine zz_aload_n C 0 ddM_canGet_11 rfl rfl ?_
  obtain ⟨h1, h⟩ := gdN h
  obtain ⟨h2, h⟩ := gdN h
  refine zz_getr C ddM_canGet_12 fl_M_31 rfl h1 (of_decide_eq_true h2) ?_
  refine zz_iload_n C 2 ddM_canGet_15 rfl rfl ?_
  obtain ⟨h3, h⟩ := gdN h
  refine zz_iaload C ddM_canGet_16 h3 ?_
  refine zz_icmp_gt (tgt := 44) C ddM_canGet_17 rfl (fun hc => ?_) (fun hc => ?_)
  · replace h := iteT h hc
    refine zz_loc (L1 := [(0, .ref v0), (2, .int v2)]) [0, 1] rfl ?_
    exact hx0 _ (Option.some.inj h).symm
  · replace h := iteF h hc
    refine zz_aload_n C 0 ddM_canGet_20 rfl rfl ?_
    refine zz_aload_n C 0 ddM_canGet_21 rfl rfl ?_
    refine zz_getr C ddM_canGet_22 fl_M_31 rfl h1 (of_decide_eq_true h2) ?_
    refine zz_iload_n C 2 ddM_canGet_25 rfl rfl ?_
    refine zz_iload C 3 ddM_canGet_26 rfl ?_
    refine zz_iadd C ddM_canGet_28 ?_
    obtain ⟨h4, h⟩ := gdN h
    refine zz_iaload C ddM_canGet_29 h4 ?_
    obtain ⟨q5, hq5, h⟩ := bindN h
    refine zz_callV0 (As := [.int (giM M (grM M v0 15) (Int32.toNatClampNeg (v3 + v4)))]) C ddM_canGet_30 wd_1394 my_M_listedOf mv_M_listedOf ⟨_, rfl, rfl⟩ (xM_listedOf hG (d - 1) (by omega) hq5) (by omega) h1 rfl rfl (Nat.le_of_ble_eq_true rfl) ?_
    refine zz_if_le (tgt := 38) C ddM_canGet_33 rfl (fun hc => ?_) (fun hc => ?_)
    · replace h := iteT h hc
      refine zz_iinc (v := v4 + 1) (L1 := [(4, .int (v4 + 1)), (0, .ref v0), (2, .int v2), (3, .int v3)]) C 3 ddM_canGet_38 rfl rfl N (by decide) rfl ?_
      refine zz_goto (tgt := 9) C ddM_canGet_41 rfl ?_
      refine zz_loc (L1 := [(0, .ref v0), (2, .int v2), (3, .int v3), (4, .int (v4 + 1))]) [1, 2, 3, 0] rfl ?_
      exact hK _ _ h
    · replace h := iteF h hc
      refine zz_iconst (v := 1) C ddM_canGet_36 (by decide) ?_
      exact zz_zret C (by decide) (hr _ (Option.some.inj h).symm) ddM_canGet_37
set_option maxHeartbeats 2000000 in
theorem zLM_canGet_9 {G : GXM} {X : CxM} (hG : GokM G) (C : CoM G X cM_canGet "HomeFreedModel") (N : mLM X = 5) {d : Nat} (hD : dpM X = d) (hd : 3 ≤ d) {v0 : Nat} {v2 : Int32} {v3 : Int32} {q : (Int32 × Mem) ⊕ (Mem)} : ∀ (f : Nat) (v4 : Int32) (M : Mem), LM_canGet_9 f v0 v2 v3 v4 M = some q → (hr : ∀ r : Int32 × Mem, q = .inl r → EnM G X (some .boolean) (some (.int r.1)) r.2 0 0) → (hx0 : ∀ y : Mem, q = (.inr y) → ZM G X 44 [(0, .ref v0), (2, .int v2)] [] y 0 0) → ZM G X 9 [(0, .ref v0), (2, .int v2), (3, .int v3), (4, .int v4)] [] M 0 0 := by
  intro f
  induction f with
  | zero => intro v4 M h; cases h
  | succ f ih =>
    intro v4 M h hr hx0
    exact zBM_canGet_9 hG C N hD hd (K := LM_canGet_9 f) (q := q) (fun v4 M h => ih v4 M h hr hx0) hr hx0 h
set_option maxHeartbeats 2000000 in
theorem xM_canGet {G : GXM} {l : Launch} (hG : GokM G) (d : Nat) (hd : 3 ≤ d) {v0 : Nat} {v1 : Int32} {v2 : Int32} {M : Mem} {q : Int32 × Mem} (h : fM_canGet v0 v1 v2 M = some q) : ExM G l d 0 0 yM_canGet cM_canGet 5 (some .boolean) [.ref v0, .int v1, .int v2] M (some (.int q.1)) q.2 := by
  refine ex_of hG (by decide) (Nat.le_of_ble_eq_true rfl) ?_
  intro X hl C E N hD hn
  show ZM G X 0 [(4, .int v4), (3, .int v3), (0, .ref v0), (1, .int v1), (2, .int v2)] [] M 0 0
  unfold fM_canGet at h
  refine zz_iload_n C 1 ddM_canGet_0 rfl rfl ?_
  refine zz_iload_n C 2 ddM_canGet_1 rfl rfl ?_
  obtain ⟨q1, hq1, h⟩ := bindN h
  refine zz_callS0 (As := [.int v1, .int v2]) C ddM_canGet_2 wd_1432 my_M_queueAt mv_M_queueAt (xM_queueAt hG (d - 1) (by omega) hq1) (by omega) rfl rfl (Nat.le_of_ble_eq_true rfl) ?_
  refine zz_istore_n (L1 := [(3, .int q1.1), (0, .ref v0), (1, .int v1), (2, .int v2)]) C ddM_canGet_5 rfl N (by decide) rfl ?_
  refine zz_iconst (v := 1) C ddM_canGet_6 (by decide) ?_
  refine zz_istore (L1 := [(4, .int 1), (3, .int q1.1), (0, .ref v0), (1, .int v1), (2, .int v2)]) C ddM_canGet_7 N (by decide) rfl ?_
  refine zz_loc (L1 := [(0, .ref v0), (2, .int v2), (3, .int q1.1), (4, .int 1)]) [2, 4, 1, 0] rfl ?_
  obtain ⟨q2, hq2, h⟩ := bindN h
  refine zLM_canGet_9 hG C N hD hd 1000000 _ _ hq2 ?_ ?_
  · intro r3 eq2; subst eq2
    obtain rfl := Option.some.inj h
    exact E
  · intro y4 eq2; subst eq2
    refine zz_aload_n C 0 ddM_canGet_44 rfl rfl ?_
    refine zz_iload_n C 1 ddM_canGet_45 rfl rfl ?_
    refine zz_iconst (v := 1) C ddM_canGet_46 (by decide) ?_
    obtain ⟨h6, h⟩ := gdN h
    obtain ⟨q5, hq5, h⟩ := bindN h
    refine zz_callV0 (As := [.int v2, .int 1]) C ddM_canGet_47 wd_1471 my_M_otherPage mv_M_otherPage ⟨_, rfl, rfl⟩ (xM_otherPage hG (d - 1) (by omega) hq5) (by omega) h6 rfl rfl (Nat.le_of_ble_eq_true rfl) ?_
    refine zz_iconst (v := (-1)) C ddM_canGet_50 (by decide) ?_
    refine zz_icmp_ne (tgt := 64) C ddM_canGet_51 rfl (fun hc => ?_) (fun hc => ?_)
    · replace h := iteF h hc
      refine zz_loc (L1 := []) [] rfl ?_
      exact zBM_canGet_64 hG C N hD hd E h
    · replace h := iteT h hc
      refine zz_aload_n C 0 ddM_canGet_54 rfl rfl ?_
      refine zz_iload_n C 1 ddM_canGet_55 rfl rfl ?_
      refine zz_iconst (v := 0) C ddM_canGet_56 (by decide) ?_
      obtain ⟨h8, h⟩ := gdN h
      obtain ⟨q7, hq7, h⟩ := bindN h
      refine zz_callV0 (As := [.int v2, .int 0]) C ddM_canGet_57 wd_1471 my_M_otherPage mv_M_otherPage ⟨_, rfl, rfl⟩ (xM_otherPage hG (d - 1) (by omega) hq7) (by omega) h8 rfl rfl (Nat.le_of_ble_eq_true rfl) ?_
      refine zz_iconst (v := (-1)) C ddM_canGet_60 (by decide) ?_
      refine zz_icmp_eq (tgt := 68) C ddM_canGet_61 rfl (fun hc => ?_) (fun hc => ?_)
      · replace h := iteT h hc
        refine zz_iconst (v := 0) C ddM_canGet_68 (by decide) ?_
        refine zz_loc (L1 := []) [] rfl ?_
        exact zBM_canGet_69 hG C N hD hd E h
      · replace h := iteF h hc
        refine zz_loc (L1 := []) [] rfl ?_
        exact zBM_canGet_64 hG C N hD hd E h
theorem ddM_isRefused_0 : decode cM_isRefused 0 = .ok (.iload_n 1, 1) := by decide +kernel
theorem ddM_isRefused_1 : decode cM_isRefused 1 = .ok (.iconst (-1), 1) := by decide +kernel
theorem ddM_isRefused_2 : decode cM_isRefused 2 = .ok (.if_icmp .eq 13, 3) := by decide +kernel
theorem ddM_isRefused_5 : decode cM_isRefused 5 = .ok (.aload_n 0, 1) := by decide +kernel
theorem ddM_isRefused_6 : decode cM_isRefused 6 = .ok (.getfield 34, 3) := by decide +kernel
theorem ddM_isRefused_9 : decode cM_isRefused 9 = .ok (.iload_n 1, 1) := by decide +kernel
theorem ddM_isRefused_10 : decode cM_isRefused 10 = .ok (.dup2, 1) := by decide +kernel
theorem ddM_isRefused_11 : decode cM_isRefused 11 = .ok (.iaload, 1) := by decide +kernel
theorem ddM_isRefused_12 : decode cM_isRefused 12 = .ok (.iconst 1, 1) := by decide +kernel
theorem ddM_isRefused_13 : decode cM_isRefused 13 = .ok (.iadd, 1) := by decide +kernel
theorem ddM_isRefused_14 : decode cM_isRefused 14 = .ok (.iastore, 1) := by decide +kernel
theorem ddM_isRefused_15 : decode cM_isRefused 15 = .ok (.iload_n 1, 1) := by decide +kernel
theorem ddM_isRefused_16 : decode cM_isRefused 16 = .ok (.iconst (-1), 1) := by decide +kernel
theorem ddM_isRefused_17 : decode cM_isRefused 17 = .ok (.if_icmp .eq 7, 3) := by decide +kernel
theorem ddM_isRefused_20 : decode cM_isRefused 20 = .ok (.iconst 1, 1) := by decide +kernel
theorem ddM_isRefused_21 : decode cM_isRefused 21 = .ok (.goto 4, 3) := by decide +kernel
theorem ddM_isRefused_24 : decode cM_isRefused 24 = .ok (.iconst 0, 1) := by decide +kernel
theorem ddM_isRefused_25 : decode cM_isRefused 25 = .ok (.ireturn, 1) := by decide +kernel
set_option maxHeartbeats 2000000 in
theorem zBM_isRefused_25 {G : GXM} {X : CxM} (hG : GokM G) (C : CoM G X cM_isRefused "HomeFreedModel") (N : mLM X = 2) {d : Nat} (hD : dpM X = d) (hd : 0 ≤ d)  {q : Int32 × Mem} (E : EnM G X (some .boolean) (some (.int q.1)) q.2 0 0) {w0 : Int32} {M : Mem} (h : BM_isRefused_25 w0 M = some q) : ZM G X 25 [] [.int w0] M 0 0 := by
  unfold BM_isRefused_25 at h
  obtain ⟨h1, h⟩ := gdN h
  obtain rfl := Option.some.inj h
  exact zz_zret C (of_decide_eq_true h1) E ddM_isRefused_25
set_option maxHeartbeats 2000000 in
theorem zBM_isRefused_15 {G : GXM} {X : CxM} (hG : GokM G) (C : CoM G X cM_isRefused "HomeFreedModel") (N : mLM X = 2) {d : Nat} (hD : dpM X = d) (hd : 0 ≤ d)  {q : Int32 × Mem} (E : EnM G X (some .boolean) (some (.int q.1)) q.2 0 0) {v1 : Int32} {M : Mem} (h : BM_isRefused_15 v1 M = some q) : ZM G X 15 [(1, .int v1)] [] M 0 0 := by
  unfold BM_isRefused_15 at h
  refine zz_iload_n C 0 ddM_isRefused_15 rfl rfl ?_
  refine zz_iconst (v := (-1)) C ddM_isRefused_16 (by decide) ?_
  refine zz_icmp_eq (tgt := 24) C ddM_isRefused_17 rfl (fun hc => ?_) (fun hc => ?_)
  · replace h := iteT h hc
    refine zz_iconst (v := 0) C ddM_isRefused_24 (by decide) ?_
    refine zz_loc (L1 := []) [] rfl ?_
    exact zBM_isRefused_25 hG C N hD hd E h
  · replace h := iteF h hc
    refine zz_iconst (v := 1) C ddM_isRefused_20 (by decide) ?_
    refine zz_goto (tgt := 25) C ddM_isRefused_21 rfl ?_
    refine zz_loc (L1 := []) [] rfl ?_
    exact zBM_isRefused_25 hG C N hD hd E h
set_option maxHeartbeats 2000000 in
theorem xM_isRefused {G : GXM} {l : Launch} (hG : GokM G) (d : Nat) (hd : 0 ≤ d) {v0 : Nat} {v1 : Int32} {M : Mem} {q : Int32 × Mem} (h : fM_isRefused v0 v1 M = some q) : ExM G l d 0 0 yM_isRefused cM_isRefused 2 (some .boolean) [.ref v0, .int v1] M (some (.int q.1)) q.2 := by
  refine ex_of hG (by decide) (Nat.le_of_ble_eq_true rfl) ?_
  intro X hl C E N hD hn
  show ZM G X 0 [(0, .ref v0), (1, .int v1)] [] M 0 0
  unfold fM_isRefused at h
  refine zz_iload_n C 1 ddM_isRefused_0 rfl rfl ?_
  refine zz_iconst (v := (-1)) C ddM_isRefused_1 (by decide) ?_
  refine zz_icmp_eq (tgt := 15) C ddM_isRefused_2 rfl (fun hc => ?_) (fun hc => ?_)
  · replace h := iteT h hc
    refine zz_loc (L1 := [(1, .int v1)]) [1] rfl ?_
    exact zBM_isRefused_15 hG C N hD hd E h
  · replace h := iteF h hc
    refine zz_aload_n C 0 ddM_isRefused_5 rfl rfl ?_
    obtain ⟨h1, h⟩ := gdN h
    obtain ⟨h2, h⟩ := gdN h
    refine zz_getr C ddM_isRefused_6 fl_M_34 rfl h1 (of_decide_eq_true h2) ?_
    refine zz_iload_n C 1 ddM_isRefused_9 rfl rfl ?_
    refine zz_dup2 C ddM_isRefused_10 rfl rfl ?_
    obtain ⟨h3, h⟩ := gdN h
    refine zz_iaload C ddM_isRefused_11 h3 ?_
    refine zz_iconst (v := 1) C ddM_isRefused_12 (by decide) ?_
    refine zz_iadd C ddM_isRefused_13 ?_
    obtain ⟨h4, h⟩ := gdN h
    refine zz_iastore C ddM_isRefused_14 h4 ?_
    refine zz_loc (L1 := [(1, .int v1)]) [1] rfl ?_
    exact zBM_isRefused_15 hG C N hD hd E h
theorem ddM_keep_0 : decode cM_keep 0 = .ok (.aload_n 0, 1) := by decide +kernel
theorem ddM_keep_1 : decode cM_keep 1 = .ok (.getfield 147, 3) := by decide +kernel
theorem ddM_keep_4 : decode cM_keep 4 = .ok (.bipush 40, 2) := by decide +kernel
theorem ddM_keep_6 : decode cM_keep 6 = .ok (.if_icmp .ne 45, 3) := by decide +kernel
theorem ddM_keep_9 : decode cM_keep 9 = .ok (.sipush 3893, 3) := by decide +kernel
theorem ddM_keep_12 : decode cM_keep 12 = .ok (.istore_n 1, 1) := by decide +kernel
theorem ddM_keep_13 : decode cM_keep 13 = .ok (.iload_n 1, 1) := by decide +kernel
theorem ddM_keep_14 : decode cM_keep 14 = .ok (.ldc 53, 2) := by decide +kernel
theorem ddM_keep_16 : decode cM_keep 16 = .ok (.if_icmp .ge 25, 3) := by decide +kernel
theorem ddM_keep_19 : decode cM_keep 19 = .ok (.aload_n 0, 1) := by decide +kernel
theorem ddM_keep_20 : decode cM_keep 20 = .ok (.getfield 54, 3) := by decide +kernel
theorem ddM_keep_23 : decode cM_keep 23 = .ok (.iload_n 1, 1) := by decide +kernel
theorem ddM_keep_24 : decode cM_keep 24 = .ok (.sipush 3893, 3) := by decide +kernel
theorem ddM_keep_27 : decode cM_keep 27 = .ok (.isub, 1) := by decide +kernel
theorem ddM_keep_28 : decode cM_keep 28 = .ok (.aload_n 0, 1) := by decide +kernel
theorem ddM_keep_29 : decode cM_keep 29 = .ok (.getfield 54, 3) := by decide +kernel
theorem ddM_keep_32 : decode cM_keep 32 = .ok (.iload_n 1, 1) := by decide +kernel
theorem ddM_keep_33 : decode cM_keep 33 = .ok (.iaload, 1) := by decide +kernel
theorem ddM_keep_34 : decode cM_keep 34 = .ok (.iastore, 1) := by decide +kernel
theorem ddM_keep_35 : decode cM_keep 35 = .ok (.iinc 1 1, 3) := by decide +kernel
theorem ddM_keep_38 : decode cM_keep 38 = .ok (.goto (-25), 3) := by decide +kernel
theorem ddM_keep_41 : decode cM_keep 41 = .ok (.aload_n 0, 1) := by decide +kernel
theorem ddM_keep_42 : decode cM_keep 42 = .ok (.dup, 1) := by decide +kernel
theorem ddM_keep_43 : decode cM_keep 43 = .ok (.getfield 147, 3) := by decide +kernel
theorem ddM_keep_46 : decode cM_keep 46 = .ok (.iconst 1, 1) := by decide +kernel
theorem ddM_keep_47 : decode cM_keep 47 = .ok (.isub, 1) := by decide +kernel
theorem ddM_keep_48 : decode cM_keep 48 = .ok (.putfield 147, 3) := by decide +kernel
theorem ddM_keep_51 : decode cM_keep 51 = .ok (.iconst 0, 1) := by decide +kernel
theorem ddM_keep_52 : decode cM_keep 52 = .ok (.istore_n 1, 1) := by decide +kernel
theorem ddM_keep_53 : decode cM_keep 53 = .ok (.iload_n 1, 1) := by decide +kernel
theorem ddM_keep_54 : decode cM_keep 54 = .ok (.sipush 3893, 3) := by decide +kernel
theorem ddM_keep_57 : decode cM_keep 57 = .ok (.if_icmp .ge 30, 3) := by decide +kernel
theorem ddM_keep_60 : decode cM_keep 60 = .ok (.aload_n 0, 1) := by decide +kernel
theorem ddM_keep_61 : decode cM_keep 61 = .ok (.getfield 54, 3) := by decide +kernel
theorem ddM_keep_64 : decode cM_keep 64 = .ok (.sipush 3893, 3) := by decide +kernel
theorem ddM_keep_67 : decode cM_keep 67 = .ok (.aload_n 0, 1) := by decide +kernel
theorem ddM_keep_68 : decode cM_keep 68 = .ok (.getfield 147, 3) := by decide +kernel
theorem ddM_keep_71 : decode cM_keep 71 = .ok (.imul, 1) := by decide +kernel
theorem ddM_keep_72 : decode cM_keep 72 = .ok (.iload_n 1, 1) := by decide +kernel
theorem ddM_keep_73 : decode cM_keep 73 = .ok (.iadd, 1) := by decide +kernel
theorem ddM_keep_74 : decode cM_keep 74 = .ok (.aload_n 0, 1) := by decide +kernel
theorem ddM_keep_75 : decode cM_keep 75 = .ok (.getfield 31, 3) := by decide +kernel
theorem ddM_keep_78 : decode cM_keep 78 = .ok (.iload_n 1, 1) := by decide +kernel
theorem ddM_keep_79 : decode cM_keep 79 = .ok (.iaload, 1) := by decide +kernel
theorem ddM_keep_80 : decode cM_keep 80 = .ok (.iastore, 1) := by decide +kernel
theorem ddM_keep_81 : decode cM_keep 81 = .ok (.iinc 1 1, 3) := by decide +kernel
theorem ddM_keep_84 : decode cM_keep 84 = .ok (.goto (-31), 3) := by decide +kernel
theorem ddM_keep_87 : decode cM_keep 87 = .ok (.aload_n 0, 1) := by decide +kernel
theorem ddM_keep_88 : decode cM_keep 88 = .ok (.dup, 1) := by decide +kernel
theorem ddM_keep_89 : decode cM_keep 89 = .ok (.getfield 147, 3) := by decide +kernel
theorem ddM_keep_92 : decode cM_keep 92 = .ok (.iconst 1, 1) := by decide +kernel
theorem ddM_keep_93 : decode cM_keep 93 = .ok (.iadd, 1) := by decide +kernel
theorem ddM_keep_94 : decode cM_keep 94 = .ok (.putfield 147, 3) := by decide +kernel
theorem ddM_keep_97 : decode cM_keep 97 = .ok (.return_, 1) := by decide +kernel
set_option maxHeartbeats 2000000 in
theorem zBM_keep_53 {G : GXM} {X : CxM} (hG : GokM G) (C : CoM G X cM_keep "HomeFreedModel") (N : mLM X = 2) {d : Nat} (hD : dpM X = d) (hd : 0 ≤ d) {v0 : Nat} {K : Nat → Int32 → Mem → Option ((Mem))} {q : (Mem)} (hK : ∀ (v1 : Int32) (M : Mem), K v0 v1 M = some q → ZM G X 53 [(0, .ref v0), (1, .int v1)] [] M 0 0) (hr : ∀ r : Mem, q =  r → EnM G X none none r 0 0) {v1 : Int32} {M : Mem} (h : BM_keep_53 K v0 v1 M = some q) : ZM G X 53 [(0, .ref v0), (1, .int v1)] [] M 0 0 := by
  unfold BM_keep_53 at h
  refine zz_iload_n C 1 ddM_keep_53 rfl rfl ?_
  refine zz_sipush (v := 3893) C ddM_keep_54 (by decide) ?_
  refine zz_icmp_ge (tgt := 87) C ddM_keep_57 rfl (fun hc => ?_) (fun hc => ?_)
  · replace h := iteT h hc
    refine zz_aload_n C 0 ddM_keep_87 rfl rfl ?_
    refine zz_dup C ddM_keep_88 rfl ?_
    obtain ⟨h1, h⟩ := gdN h
    refine zz_geti C ddM_keep_89 fl_M_147 rfl h1 ?_
    refine zz_iconst (v := 1) C ddM_keep_92 (by decide) ?_
    refine zz_iadd C ddM_keep_93 ?_
    refine zz_puti C ddM_keep_94 fl_M_147 rfl rfl rfl h1 ?_
    exact zz_vret C (hr _ (Option.some.inj h).symm) ddM_keep_97
  · replace h := iteF h hc
    refine zz_aload_n C 0 ddM_keep_60 rfl rfl ?_
    obtain ⟨h2, h⟩ := gdN h
    obtain ⟨h3, h⟩ := gdN h
    refine zz_getr C ddM_keep_61 fl_M_54 rfl h2 (of_decide_eq_true h3) ?_
    refine zz_sipush (v := 3893) C ddM_keep_64 (by decide) ?_
    refine zz_aload_n C 0 ddM_keep_67 rfl rfl ?_
    refine zz_geti C ddM_keep_68 fl_M_147 rfl h2 ?_
    refine zz_imul C ddM_keep_71 ?_
    refine zz_iload_n C 1 ddM_keep_72 rfl rfl ?_
    refine zz_iadd C ddM_keep_73 ?_
    refine zz_aload_n C 0 ddM_keep_74 rfl rfl ?_
    obtain ⟨h4, h⟩ := gdN h
    refine zz_getr C ddM_keep_75 fl_M_31 rfl h2 (of_decide_eq_true h4) ?_
    refine zz_iload_n C 1 ddM_keep_78 rfl rfl ?_
    obtain ⟨h5, h⟩ := gdN h
    refine zz_iaload C ddM_keep_79 h5 ?_
    obtain ⟨h6, h⟩ := gdN h
    refine zz_iastore C ddM_keep_80 h6 ?_
    refine zz_iinc (v := v1 + 1) (L1 := [(1, .int (v1 + 1)), (0, .ref v0)]) C 1 ddM_keep_81 rfl rfl N (by decide) rfl ?_
    refine zz_goto (tgt := 53) C ddM_keep_84 rfl ?_
    refine zz_loc (L1 := [(0, .ref v0), (1, .int (v1 + 1))]) [1, 0] rfl ?_
    exact hK _ _ h
set_option maxHeartbeats 2000000 in
theorem zLM_keep_53 {G : GXM} {X : CxM} (hG : GokM G) (C : CoM G X cM_keep "HomeFreedModel") (N : mLM X = 2) {d : Nat} (hD : dpM X = d) (hd : 0 ≤ d) {v0 : Nat} {q : (Mem)} : ∀ (f : Nat) (v1 : Int32) (M : Mem), LM_keep_53 f v0 v1 M = some q → (hr : ∀ r : Mem, q =  r → EnM G X none none r 0 0) → ZM G X 53 [(0, .ref v0), (1, .int v1)] [] M 0 0 := by
  intro f
  induction f with
  | zero => intro v1 M h; cases h
  | succ f ih =>
    intro v1 M h hr
    exact zBM_keep_53 hG C N hD hd (K := LM_keep_53 f) (q := q) (fun v1 M h => ih v1 M h hr) hr h
set_option maxHeartbeats 2000000 in
theorem zBM_keep_51 {G : GXM} {X : CxM} (hG : GokM G) (C : CoM G X cM_keep "HomeFreedModel") (N : mLM X = 2) {d : Nat} (hD : dpM X = d) (hd : 0 ≤ d)  {q : Mem} (E : EnM G X none none q 0 0) {v0 : Nat} {M : Mem} (h : BM_keep_51 v0 M = some q) : ZM G X 51 [(0, .ref v0)] [] M 0 0 := by
  unfold BM_keep_51 at h
  refine zz_iconst (v := 0) C ddM_keep_51 (by decide) ?_
  refine zz_istore_n (L1 := [(1, .int 0), (0, .ref v0)]) C ddM_keep_52 rfl N (by decide) rfl ?_
  refine zz_loc (L1 := [(0, .ref v0), (1, .int 0)]) [1, 0] rfl ?_
  obtain ⟨q1, hq1, h⟩ := bindN h
  refine zLM_keep_53 hG C N hD hd 1000000 _ _ hq1 ?_
  · intro r2 eq1; subst eq1
    obtain rfl := Option.some.inj h
    exact E
set_option maxHeartbeats 2000000 in
theorem zBM_keep_13 {G : GXM} {X : CxM} (hG : GokM G) (C : CoM G X cM_keep "HomeFreedModel") (N : mLM X = 2) {d : Nat} (hD : dpM X = d) (hd : 0 ≤ d) {v0 : Nat} {K : Nat → Int32 → Mem → Option ((Mem))} {q : (Mem)} (hK : ∀ (v1 : Int32) (M : Mem), K v0 v1 M = some q → ZM G X 13 [(0, .ref v0), (1, .int v1)] [] M 0 0) (hx0 : ∀ y : Mem, q = y → ZM G X 41 [(0, .ref v0)] [] y 0 0) {v1 : Int32} {M : Mem} (h : BM_keep_13 K v0 v1 M = some q) : ZM G X 13 [(0, .ref v0), (1, .int v1)] [] M 0 0 := by
  unfold BM_keep_13 at h
  refine zz_iload_n C 1 ddM_keep_13 rfl rfl ?_
  refine zz_ldc C ddM_keep_14 wd_1168 rfl ?_
  refine zz_icmp_ge (tgt := 41) C ddM_keep_16 rfl (fun hc => ?_) (fun hc => ?_)
  · replace h := iteT h hc
    refine zz_loc (L1 := [(0, .ref v0)]) [0] rfl ?_
    exact hx0 _ (Option.some.inj h).symm
  · replace h := iteF h hc
    refine zz_aload_n C 0 ddM_keep_19 rfl rfl ?_
    obtain ⟨h1, h⟩ := gdN h
    obtain ⟨h2, h⟩ := gdN h
    refine zz_getr C ddM_keep_20 fl_M_54 rfl h1 (of_decide_eq_true h2) ?_
    refine zz_iload_n C 1 ddM_keep_23 rfl rfl ?_
    refine zz_sipush (v := 3893) C ddM_keep_24 (by decide) ?_
    refine zz_isub C ddM_keep_27 ?_
    refine zz_aload_n C 0 ddM_keep_28 rfl rfl ?_
    refine zz_getr C ddM_keep_29 fl_M_54 rfl h1 (of_decide_eq_true h2) ?_
    refine zz_iload_n C 1 ddM_keep_32 rfl rfl ?_
    obtain ⟨h3, h⟩ := gdN h
    refine zz_iaload C ddM_keep_33 h3 ?_
    obtain ⟨h4, h⟩ := gdN h
    refine zz_iastore C ddM_keep_34 h4 ?_
    refine zz_iinc (v := v1 + 1) (L1 := [(1, .int (v1 + 1)), (0, .ref v0)]) C 1 ddM_keep_35 rfl rfl N (by decide) rfl ?_
    refine zz_goto (tgt := 13) C ddM_keep_38 rfl ?_
    refine zz_loc (L1 := [(0, .ref v0), (1, .int (v1 + 1))]) [1, 0] rfl ?_
    exact hK _ _ h
set_option maxHeartbeats 2000000 in
theorem zLM_keep_13 {G : GXM} {X : CxM} (hG : GokM G) (C : CoM G X cM_keep "HomeFreedModel") (N : mLM X = 2) {d : Nat} (hD : dpM X = d) (hd : 0 ≤ d) {v0 : Nat} {q : (Mem)} : ∀ (f : Nat) (v1 : Int32) (M : Mem), LM_keep_13 f v0 v1 M = some q → (hx0 : ∀ y : Mem, q = y → ZM G X 41 [(0, .ref v0)] [] y 0 0) → ZM G X 13 [(0, .ref v0), (1, .int v1)] [] M 0 0 := by
  intro f
  induction f with
  | zero => intro v1 M h; cases h
  | succ f ih =>
    intro v1 M h hx0
    exact zBM_keep_13 hG C N hD hd (K := LM_keep_13 f) (q := q) (fun v1 M h => ih v1 M h hx0) hx0 h
set_option maxHeartbeats 2000000 in
theorem xM_keep {G : GXM} {l : Launch} (hG : GokM G) (d : Nat) (hd : 0 ≤ d) {v0 : Nat} {M : Mem} {q : Mem} (h : fM_keep v0 M = some q) : ExM G l d 0 0 yM_keep cM_keep 2 none [.ref v0] M none q := by
  refine ex_of hG (by decide) (Nat.le_of_ble_eq_true rfl) ?_
  intro X hl C E N hD hn
  show ZM G X 0 [(0, .ref v0)] [] M 0 0
  unfold fM_keep at h
  refine zz_aload_n C 0 ddM_keep_0 rfl rfl ?_
  obtain ⟨h1, h⟩ := gdN h
  refine zz_geti C ddM_keep_1 fl_M_147 rfl h1 ?_
  refine zz_bipush (v := 40) C ddM_keep_4 (by decide) ?_
  refine zz_icmp_ne (tgt := 51) C ddM_keep_6 rfl (fun hc => ?_) (fun hc => ?_)
  · replace h := iteF h hc
    exact zBM_keep_51 hG C N hD hd E h
  · replace h := iteT h hc
    refine zz_sipush (v := 3893) C ddM_keep_9 (by decide) ?_
    refine zz_istore_n (L1 := [(1, .int 3893), (0, .ref v0)]) C ddM_keep_12 rfl N (by decide) rfl ?_
    refine zz_loc (L1 := [(0, .ref v0), (1, .int 3893)]) [1, 0] rfl ?_
    obtain ⟨q2, hq2, h⟩ := bindN h
    refine zLM_keep_13 hG C N hD hd 1000000 _ _ hq2 ?_
    · intro y3 eq2; subst eq2
      refine zz_aload_n C 0 ddM_keep_41 rfl rfl ?_
      refine zz_dup C ddM_keep_42 rfl ?_
      obtain ⟨h4, h⟩ := gdN h
      refine zz_geti C ddM_keep_43 fl_M_147 rfl h4 ?_
      refine zz_iconst (v := 1) C ddM_keep_46 (by decide) ?_
      refine zz_isub C ddM_keep_47 ?_
      refine zz_puti C ddM_keep_48 fl_M_147 rfl rfl rfl h4 ?_
      exact zBM_keep_51 hG C N hD hd E h
theorem ddM_addFirst_0 : decode cM_addFirst 0 = .ok (.aload_n 0, 1) := by decide +kernel
theorem ddM_addFirst_1 : decode cM_addFirst 1 = .ok (.getfield 31, 3) := by decide +kernel
theorem ddM_addFirst_4 : decode cM_addFirst 4 = .ok (.iload_n 1, 1) := by decide +kernel
theorem ddM_addFirst_5 : decode cM_addFirst 5 = .ok (.iaload, 1) := by decide +kernel
theorem ddM_addFirst_6 : decode cM_addFirst 6 = .ok (.istore_n 3, 1) := by decide +kernel
theorem ddM_addFirst_7 : decode cM_addFirst 7 = .ok (.iload_n 3, 1) := by decide +kernel
theorem ddM_addFirst_8 : decode cM_addFirst 8 = .ok (.ifCond .le 27, 3) := by decide +kernel
theorem ddM_addFirst_11 : decode cM_addFirst 11 = .ok (.aload_n 0, 1) := by decide +kernel
theorem ddM_addFirst_12 : decode cM_addFirst 12 = .ok (.getfield 31, 3) := by decide +kernel
theorem ddM_addFirst_15 : decode cM_addFirst 15 = .ok (.iload_n 1, 1) := by decide +kernel
theorem ddM_addFirst_16 : decode cM_addFirst 16 = .ok (.iload_n 3, 1) := by decide +kernel
theorem ddM_addFirst_17 : decode cM_addFirst 17 = .ok (.iadd, 1) := by decide +kernel
theorem ddM_addFirst_18 : decode cM_addFirst 18 = .ok (.iconst 1, 1) := by decide +kernel
theorem ddM_addFirst_19 : decode cM_addFirst 19 = .ok (.iadd, 1) := by decide +kernel
theorem ddM_addFirst_20 : decode cM_addFirst 20 = .ok (.aload_n 0, 1) := by decide +kernel
theorem ddM_addFirst_21 : decode cM_addFirst 21 = .ok (.getfield 31, 3) := by decide +kernel
theorem ddM_addFirst_24 : decode cM_addFirst 24 = .ok (.iload_n 1, 1) := by decide +kernel
theorem ddM_addFirst_25 : decode cM_addFirst 25 = .ok (.iload_n 3, 1) := by decide +kernel
theorem ddM_addFirst_26 : decode cM_addFirst 26 = .ok (.iadd, 1) := by decide +kernel
theorem ddM_addFirst_27 : decode cM_addFirst 27 = .ok (.iaload, 1) := by decide +kernel
theorem ddM_addFirst_28 : decode cM_addFirst 28 = .ok (.iastore, 1) := by decide +kernel
theorem ddM_addFirst_29 : decode cM_addFirst 29 = .ok (.iinc 3 (-1), 3) := by decide +kernel
theorem ddM_addFirst_32 : decode cM_addFirst 32 = .ok (.goto (-25), 3) := by decide +kernel
theorem ddM_addFirst_35 : decode cM_addFirst 35 = .ok (.aload_n 0, 1) := by decide +kernel
theorem ddM_addFirst_36 : decode cM_addFirst 36 = .ok (.getfield 31, 3) := by decide +kernel
theorem ddM_addFirst_39 : decode cM_addFirst 39 = .ok (.iload_n 1, 1) := by decide +kernel
theorem ddM_addFirst_40 : decode cM_addFirst 40 = .ok (.dup2, 1) := by decide +kernel
theorem ddM_addFirst_41 : decode cM_addFirst 41 = .ok (.iaload, 1) := by decide +kernel
theorem ddM_addFirst_42 : decode cM_addFirst 42 = .ok (.iconst 1, 1) := by decide +kernel
theorem ddM_addFirst_43 : decode cM_addFirst 43 = .ok (.iadd, 1) := by decide +kernel
theorem ddM_addFirst_44 : decode cM_addFirst 44 = .ok (.iastore, 1) := by decide +kernel
theorem ddM_addFirst_45 : decode cM_addFirst 45 = .ok (.aload_n 0, 1) := by decide +kernel
theorem ddM_addFirst_46 : decode cM_addFirst 46 = .ok (.getfield 31, 3) := by decide +kernel
theorem ddM_addFirst_49 : decode cM_addFirst 49 = .ok (.iload_n 1, 1) := by decide +kernel
theorem ddM_addFirst_50 : decode cM_addFirst 50 = .ok (.iconst 1, 1) := by decide +kernel
theorem ddM_addFirst_51 : decode cM_addFirst 51 = .ok (.iadd, 1) := by decide +kernel
theorem ddM_addFirst_52 : decode cM_addFirst 52 = .ok (.iload_n 2, 1) := by decide +kernel
theorem ddM_addFirst_53 : decode cM_addFirst 53 = .ok (.iastore, 1) := by decide +kernel
theorem ddM_addFirst_54 : decode cM_addFirst 54 = .ok (.return_, 1) := by decide +kernel
set_option maxHeartbeats 2000000 in
theorem zBM_addFirst_7 {G : GXM} {X : CxM} (hG : GokM G) (C : CoM G X cM_addFirst "HomeFreedModel") (N : mLM X = 4) {d : Nat} (hD : dpM X = d) (hd : 0 ≤ d) {v0 : Nat} {v1 : Int32} {v2 : Int32} {K : Nat → Int32 → Int32 → Int32 → Mem → Option ((Mem))} {q : (Mem)} (hK : ∀ (v3 : Int32) (M : Mem), K v0 v1 v2 v3 M = some q → ZM G X 7 [(0, .ref v0), (1, .int v1), (2, .int v2), (3, .int v3)] [] M 0 0) (hr : ∀ r : Mem, q =  r → EnM G X none none r 0 0) {v3 : Int32} {M : Mem} (h : BM_addFirst_7 K v0 v1 v2 v3 M = some q) : ZM G X 7 [(0, .ref v0), (1, .int v1), (2, .int v2), (3, .int v3)] [] M 0 0 := by
  unfold BM_addFirst_7 at h
  refine zz_iload_n C 3 ddM_addFirst_7 rfl rfl ?_
  refine zz_if_le (tgt := 35) C ddM_addFirst_8 rfl (fun hc => ?_) (fun hc => ?_)
  · replace h := iteT h hc
    refine zz_aload_n C 0 ddM_addFirst_35 rfl rfl ?_
    obtain ⟨h1, h⟩ := gdN h
    obtain ⟨h2, h⟩ := gdN h
    refine zz_getr C ddM_addFirst_36 fl_M_31 rfl h1 (of_decide_eq_true h2) ?_
    refine zz_iload_n C 1 ddM_addFirst_39 rfl rfl ?_
    refine zz_dup2 C ddM_addFirst_40 rfl rfl ?_
    obtain ⟨h3, h⟩ := gdN h
    refine zz_iaload C ddM_addFirst_41 h3 ?_
    refine zz_iconst (v := 1) C ddM_addFirst_42 (by decide) ?_
    refine zz_iadd C ddM_addFirst_43 ?_
    obtain ⟨h4, h⟩ := gdN h
    refine zz_iastore C ddM_addFirst_44 h4 ?_
    refine zz_aload_n C 0 ddM_addFirst_45 rfl rfl ?_
    refine zz_getr C ddM_addFirst_46 fl_M_31 rfl h1 (of_decide_eq_true h2) ?_
    refine zz_iload_n C 1 ddM_addFirst_49 rfl rfl ?_
    refine zz_iconst (v := 1) C ddM_addFirst_50 (by decide) ?_
    refine zz_iadd C ddM_addFirst_51 ?_
    refine zz_iload_n C 2 ddM_addFirst_52 rfl rfl ?_
    obtain ⟨h5, h⟩ := gdN h
    refine zz_iastore C ddM_addFirst_53 h5 ?_
    exact zz_vret C (hr _ (Option.some.inj h).symm) ddM_addFirst_54
  · replace h := iteF h hc
    refine zz_aload_n C 0 ddM_addFirst_11 rfl rfl ?_
    obtain ⟨h6, h⟩ := gdN h
    obtain ⟨h7, h⟩ := gdN h
    refine zz_getr C ddM_addFirst_12 fl_M_31 rfl h6 (of_decide_eq_true h7) ?_
    refine zz_iload_n C 1 ddM_addFirst_15 rfl rfl ?_
    refine zz_iload_n C 3 ddM_addFirst_16 rfl rfl ?_
    refine zz_iadd C ddM_addFirst_17 ?_
    refine zz_iconst (v := 1) C ddM_addFirst_18 (by decide) ?_
    refine zz_iadd C ddM_addFirst_19 ?_
    refine zz_aload_n C 0 ddM_addFirst_20 rfl rfl ?_
    refine zz_getr C ddM_addFirst_21 fl_M_31 rfl h6 (of_decide_eq_true h7) ?_
    refine zz_iload_n C 1 ddM_addFirst_24 rfl rfl ?_
    refine zz_iload_n C 3 ddM_addFirst_25 rfl rfl ?_
    refine zz_iadd C ddM_addFirst_26 ?_
    obtain ⟨h8, h⟩ := gdN h
    refine zz_iaload C ddM_addFirst_27 h8 ?_
    obtain ⟨h9, h⟩ := gdN h
    refine zz_iastore C ddM_addFirst_28 h9 ?_
    refine zz_iinc (v := v3 + (-1)) (L1 := [(3, .int (v3 + (-1))), (0, .ref v0), (1, .int v1), (2, .int v2)]) C 3 ddM_addFirst_29 rfl rfl N (by decide) rfl ?_
    refine zz_goto (tgt := 7) C ddM_addFirst_32 rfl ?_
    refine zz_loc (L1 := [(0, .ref v0), (1, .int v1), (2, .int v2), (3, .int (v3 + (-1)))]) [1, 2, 3, 0] rfl ?_
    exact hK _ _ h
set_option maxHeartbeats 2000000 in
theorem zLM_addFirst_7 {G : GXM} {X : CxM} (hG : GokM G) (C : CoM G X cM_addFirst "HomeFreedModel") (N : mLM X = 4) {d : Nat} (hD : dpM X = d) (hd : 0 ≤ d) {v0 : Nat} {v1 : Int32} {v2 : Int32} {q : (Mem)} : ∀ (f : Nat) (v3 : Int32) (M : Mem), LM_addFirst_7 f v0 v1 v2 v3 M = some q → (hr : ∀ r : Mem, q =  r → EnM G X none none r 0 0) → ZM G X 7 [(0, .ref v0), (1, .int v1), (2, .int v2), (3, .int v3)] [] M 0 0 := by
  intro f
  induction f with
  | zero => intro v3 M h; cases h
  | succ f ih =>
    intro v3 M h hr
    exact zBM_addFirst_7 hG C N hD hd (K := LM_addFirst_7 f) (q := q) (fun v3 M h => ih v3 M h hr) hr h
set_option maxHeartbeats 2000000 in
theorem xM_addFirst {G : GXM} {l : Launch} (hG : GokM G) (d : Nat) (hd : 0 ≤ d) {v0 : Nat} {v1 : Int32} {v2 : Int32} {M : Mem} {q : Mem} (h : fM_addFirst v0 v1 v2 M = some q) : ExM G l d 0 0 yM_addFirst cM_addFirst 4 none [.ref v0, .int v1, .int v2] M none q := by
  refine ex_of hG (by decide) (Nat.le_of_ble_eq_true rfl) ?_
  intro X hl C E N hD hn
  show ZM G X 0 [(3, .int v3), (0, .ref v0), (1, .int v1), (2, .int v2)] [] M 0 0
  unfold fM_addFirst at h
  refine zz_aload_n C 0 ddM_addFirst_0 rfl rfl ?_
  obtain ⟨h1, h⟩ := gdN h
  obtain ⟨h2, h⟩ := gdN h
  refine zz_getr C ddM_addFirst_1 fl_M_31 rfl h1 (of_decide_eq_true h2) ?_
  refine zz_iload_n C 1 ddM_addFirst_4 rfl rfl ?_
  obtain ⟨h3, h⟩ := gdN h
  refine zz_iaload C ddM_addFirst_5 h3 ?_
  refine zz_istore_n (L1 := [(3, .int (giM M (grM M v0 15) (Int32.toNatClampNeg v1))), (0, .ref v0), (1, .int v1), (2, .int v2)]) C ddM_addFirst_6 rfl N (by decide) rfl ?_
  refine zz_loc (L1 := [(0, .ref v0), (1, .int v1), (2, .int v2), (3, .int (giM M (grM M v0 15) (Int32.toNatClampNeg v1)))]) [1, 2, 3, 0] rfl ?_
  obtain ⟨q4, hq4, h⟩ := bindN h
  refine zLM_addFirst_7 hG C N hD hd 1000000 _ _ hq4 ?_
  · intro r5 eq4; subst eq4
    obtain rfl := Option.some.inj h
    exact E
theorem ddM_moveAhead_0 : decode cM_moveAhead 0 = .ok (.aload_n 0, 1) := by decide +kernel
theorem ddM_moveAhead_1 : decode cM_moveAhead 1 = .ok (.getfield 31, 3) := by decide +kernel
theorem ddM_moveAhead_4 : decode cM_moveAhead 4 = .ok (.iload_n 1, 1) := by decide +kernel
theorem ddM_moveAhead_5 : decode cM_moveAhead 5 = .ok (.iaload, 1) := by decide +kernel
theorem ddM_moveAhead_6 : decode cM_moveAhead 6 = .ok (.istore_n 3, 1) := by decide +kernel
theorem ddM_moveAhead_7 : decode cM_moveAhead 7 = .ok (.iload_n 3, 1) := by decide +kernel
theorem ddM_moveAhead_8 : decode cM_moveAhead 8 = .ok (.ifCond .le 22, 3) := by decide +kernel
theorem ddM_moveAhead_11 : decode cM_moveAhead 11 = .ok (.aload_n 0, 1) := by decide +kernel
theorem ddM_moveAhead_12 : decode cM_moveAhead 12 = .ok (.iload_n 2, 1) := by decide +kernel
theorem ddM_moveAhead_13 : decode cM_moveAhead 13 = .ok (.aload_n 0, 1) := by decide +kernel
theorem ddM_moveAhead_14 : decode cM_moveAhead 14 = .ok (.getfield 31, 3) := by decide +kernel
theorem ddM_moveAhead_17 : decode cM_moveAhead 17 = .ok (.iload_n 1, 1) := by decide +kernel
theorem ddM_moveAhead_18 : decode cM_moveAhead 18 = .ok (.iload_n 3, 1) := by decide +kernel
theorem ddM_moveAhead_19 : decode cM_moveAhead 19 = .ok (.iadd, 1) := by decide +kernel
theorem ddM_moveAhead_20 : decode cM_moveAhead 20 = .ok (.iaload, 1) := by decide +kernel
theorem ddM_moveAhead_21 : decode cM_moveAhead 21 = .ok (.invokevirtual 166, 3) := by decide +kernel
theorem ddM_moveAhead_24 : decode cM_moveAhead 24 = .ok (.iinc 3 (-1), 3) := by decide +kernel
theorem ddM_moveAhead_27 : decode cM_moveAhead 27 = .ok (.goto (-20), 3) := by decide +kernel
theorem ddM_moveAhead_30 : decode cM_moveAhead 30 = .ok (.aload_n 0, 1) := by decide +kernel
theorem ddM_moveAhead_31 : decode cM_moveAhead 31 = .ok (.getfield 31, 3) := by decide +kernel
theorem ddM_moveAhead_34 : decode cM_moveAhead 34 = .ok (.iload_n 1, 1) := by decide +kernel
theorem ddM_moveAhead_35 : decode cM_moveAhead 35 = .ok (.iconst 0, 1) := by decide +kernel
theorem ddM_moveAhead_36 : decode cM_moveAhead 36 = .ok (.iastore, 1) := by decide +kernel
theorem ddM_moveAhead_37 : decode cM_moveAhead 37 = .ok (.return_, 1) := by decide +kernel
set_option maxHeartbeats 2000000 in
theorem zBM_moveAhead_7 {G : GXM} {X : CxM} (hG : GokM G) (C : CoM G X cM_moveAhead "HomeFreedModel") (N : mLM X = 4) {d : Nat} (hD : dpM X = d) (hd : 1 ≤ d) {v0 : Nat} {v1 : Int32} {v2 : Int32} {K : Nat → Int32 → Int32 → Int32 → Mem → Option ((Mem))} {q : (Mem)} (hK : ∀ (v3 : Int32) (M : Mem), K v0 v1 v2 v3 M = some q → ZM G X 7 [(0, .ref v0), (1, .int v1), (2, .int v2), (3, .int v3)] [] M 0 0) (hr : ∀ r : Mem, q =  r → EnM G X none none r 0 0) {v3 : Int32} {M : Mem} (h : BM_moveAhead_7 K v0 v1 v2 v3 M = some q) : ZM G X 7 [(0, .ref v0), (1, .int v1), (2, .int v2), (3, .int v3)] [] M 0 0 := by
  unfold BM_moveAhead_7 at h
  refine zz_iload_n C 3 ddM_moveAhead_7 rfl rfl ?_
  refine zz_if_le (tgt := 30) C ddM_moveAhead_8 rfl (fun hc => ?_) (fun hc => ?_)
  · replace h := iteT h hc
    refine zz_aload_n C 0 ddM_moveAhead_30 rfl rfl ?_
    obtain ⟨h1, h⟩ := gdN h
    obtain ⟨h2, h⟩ := gdN h
    refine zz_getr C ddM_moveAhead_31 fl_M_31 rfl h1 (of_decide_eq_true h2) ?_
    refine zz_iload_n C 1 ddM_moveAhead_34 rfl rfl ?_
    refine zz_iconst (v := 0) C ddM_moveAhead_35 (by decide) ?_
    obtain ⟨h3, h⟩ := gdN h
    refine zz_iastore C ddM_moveAhead_36 h3 ?_
    exact zz_vret C (hr _ (Option.some.inj h).symm) ddM_moveAhead_37
  · replace h := iteF h hc
    refine zz_aload_n C 0 ddM_moveAhead_11 rfl rfl ?_
    refine zz_iload_n C 2 ddM_moveAhead_12 rfl rfl ?_
    refine zz_aload_n C 0 ddM_moveAhead_13 rfl rfl ?_
    obtain ⟨h4, h⟩ := gdN h
    obtain ⟨h5, h⟩ := gdN h
    refine zz_getr C ddM_moveAhead_14 fl_M_31 rfl h4 (of_decide_eq_true h5) ?_
    refine zz_iload_n C 1 ddM_moveAhead_17 rfl rfl ?_
    refine zz_iload_n C 3 ddM_moveAhead_18 rfl rfl ?_
    refine zz_iadd C ddM_moveAhead_19 ?_
    obtain ⟨h6, h⟩ := gdN h
    refine zz_iaload C ddM_moveAhead_20 h6 ?_
    obtain ⟨q7, hq7, h⟩ := bindN h
    refine zz_callV0 (As := [.int v2, .int (giM M (grM M v0 15) (Int32.toNatClampNeg (v1 + v3)))]) C ddM_moveAhead_21 wd_1499 my_M_addFirst mv_M_addFirst ⟨_, rfl, rfl⟩ (xM_addFirst hG (d - 1) (by omega) hq7) (by omega) h4 rfl rfl (Nat.le_of_ble_eq_true rfl) ?_
    refine zz_iinc (v := v3 + (-1)) (L1 := [(3, .int (v3 + (-1))), (0, .ref v0), (1, .int v1), (2, .int v2)]) C 3 ddM_moveAhead_24 rfl rfl N (by decide) rfl ?_
    refine zz_goto (tgt := 7) C ddM_moveAhead_27 rfl ?_
    refine zz_loc (L1 := [(0, .ref v0), (1, .int v1), (2, .int v2), (3, .int (v3 + (-1)))]) [1, 2, 3, 0] rfl ?_
    exact hK _ _ h
set_option maxHeartbeats 2000000 in
theorem zLM_moveAhead_7 {G : GXM} {X : CxM} (hG : GokM G) (C : CoM G X cM_moveAhead "HomeFreedModel") (N : mLM X = 4) {d : Nat} (hD : dpM X = d) (hd : 1 ≤ d) {v0 : Nat} {v1 : Int32} {v2 : Int32} {q : (Mem)} : ∀ (f : Nat) (v3 : Int32) (M : Mem), LM_moveAhead_7 f v0 v1 v2 v3 M = some q → (hr : ∀ r : Mem, q =  r → EnM G X none none r 0 0) → ZM G X 7 [(0, .ref v0), (1, .int v1), (2, .int v2), (3, .int v3)] [] M 0 0 := by
  intro f
  induction f with
  | zero => intro v3 M h; cases h
  | succ f ih =>
    intro v3 M h hr
    exact zBM_moveAhead_7 hG C N hD hd (K := LM_moveAhead_7 f) (q := q) (fun v3 M h => ih v3 M h hr) hr h
set_option maxHeartbeats 2000000 in
theorem xM_moveAhead {G : GXM} {l : Launch} (hG : GokM G) (d : Nat) (hd : 1 ≤ d) {v0 : Nat} {v1 : Int32} {v2 : Int32} {M : Mem} {q : Mem} (h : fM_moveAhead v0 v1 v2 M = some q) : ExM G l d 0 0 yM_moveAhead cM_moveAhead 4 none [.ref v0, .int v1, .int v2] M none q := by
  refine ex_of hG (by decide) (Nat.le_of_ble_eq_true rfl) ?_
  intro X hl C E N hD hn
  show ZM G X 0 [(3, .int v3), (0, .ref v0), (1, .int v1), (2, .int v2)] [] M 0 0
  unfold fM_moveAhead at h
  refine zz_aload_n C 0 ddM_moveAhead_0 rfl rfl ?_
  obtain ⟨h1, h⟩ := gdN h
  obtain ⟨h2, h⟩ := gdN h
  refine zz_getr C ddM_moveAhead_1 fl_M_31 rfl h1 (of_decide_eq_true h2) ?_
  refine zz_iload_n C 1 ddM_moveAhead_4 rfl rfl ?_
  obtain ⟨h3, h⟩ := gdN h
  refine zz_iaload C ddM_moveAhead_5 h3 ?_
  refine zz_istore_n (L1 := [(3, .int (giM M (grM M v0 15) (Int32.toNatClampNeg v1))), (0, .ref v0), (1, .int v1), (2, .int v2)]) C ddM_moveAhead_6 rfl N (by decide) rfl ?_
  refine zz_loc (L1 := [(0, .ref v0), (1, .int v1), (2, .int v2), (3, .int (giM M (grM M v0 15) (Int32.toNatClampNeg v1)))]) [1, 2, 3, 0] rfl ?_
  obtain ⟨q4, hq4, h⟩ := bindN h
  refine zLM_moveAhead_7 hG C N hD hd 1000000 _ _ hq4 ?_
  · intro r5 eq4; subst eq4
    obtain rfl := Option.some.inj h
    exact E
theorem ddM_collect_0 : decode cM_collect 0 = .ok (.iload_n 1, 1) := by decide +kernel
theorem ddM_collect_1 : decode cM_collect 1 = .ok (.iconst 0, 1) := by decide +kernel
theorem ddM_collect_2 : decode cM_collect 2 = .ok (.invokestatic 173, 3) := by decide +kernel
theorem ddM_collect_5 : decode cM_collect 5 = .ok (.istore_n 2, 1) := by decide +kernel
theorem ddM_collect_6 : decode cM_collect 6 = .ok (.aload_n 0, 1) := by decide +kernel
theorem ddM_collect_7 : decode cM_collect 7 = .ok (.getfield 31, 3) := by decide +kernel
theorem ddM_collect_10 : decode cM_collect 10 = .ok (.iload_n 2, 1) := by decide +kernel
theorem ddM_collect_11 : decode cM_collect 11 = .ok (.iaload, 1) := by decide +kernel
theorem ddM_collect_12 : decode cM_collect 12 = .ok (.ifCond .le 5, 3) := by decide +kernel
theorem ddM_collect_15 : decode cM_collect 15 = .ok (.iconst 0, 1) := by decide +kernel
theorem ddM_collect_16 : decode cM_collect 16 = .ok (.ireturn, 1) := by decide +kernel
theorem ddM_collect_17 : decode cM_collect 17 = .ok (.aload_n 0, 1) := by decide +kernel
theorem ddM_collect_18 : decode cM_collect 18 = .ok (.getfield 31, 3) := by decide +kernel
theorem ddM_collect_21 : decode cM_collect 21 = .ok (.iload_n 1, 1) := by decide +kernel
theorem ddM_collect_22 : decode cM_collect 22 = .ok (.iconst 1, 1) := by decide +kernel
theorem ddM_collect_23 : decode cM_collect 23 = .ok (.invokestatic 173, 3) := by decide +kernel
theorem ddM_collect_26 : decode cM_collect 26 = .ok (.iaload, 1) := by decide +kernel
theorem ddM_collect_27 : decode cM_collect 27 = .ok (.ifCond .le 7, 3) := by decide +kernel
theorem ddM_collect_30 : decode cM_collect 30 = .ok (.iconst 1, 1) := by decide +kernel
theorem ddM_collect_31 : decode cM_collect 31 = .ok (.goto 4, 3) := by decide +kernel
theorem ddM_collect_34 : decode cM_collect 34 = .ok (.iconst 2, 1) := by decide +kernel
theorem ddM_collect_35 : decode cM_collect 35 = .ok (.istore_n 3, 1) := by decide +kernel
theorem ddM_collect_36 : decode cM_collect 36 = .ok (.aload_n 0, 1) := by decide +kernel
theorem ddM_collect_37 : decode cM_collect 37 = .ok (.iload_n 1, 1) := by decide +kernel
theorem ddM_collect_38 : decode cM_collect 38 = .ok (.iload_n 3, 1) := by decide +kernel
theorem ddM_collect_39 : decode cM_collect 39 = .ok (.invokestatic 173, 3) := by decide +kernel
theorem ddM_collect_42 : decode cM_collect 42 = .ok (.iload_n 2, 1) := by decide +kernel
theorem ddM_collect_43 : decode cM_collect 43 = .ok (.invokevirtual 211, 3) := by decide +kernel
theorem ddM_collect_46 : decode cM_collect 46 = .ok (.aload_n 0, 1) := by decide +kernel
theorem ddM_collect_47 : decode cM_collect 47 = .ok (.getfield 31, 3) := by decide +kernel
theorem ddM_collect_50 : decode cM_collect 50 = .ok (.iload_n 2, 1) := by decide +kernel
theorem ddM_collect_51 : decode cM_collect 51 = .ok (.iaload, 1) := by decide +kernel
theorem ddM_collect_52 : decode cM_collect 52 = .ok (.ifCond .ne 7, 3) := by decide +kernel
theorem ddM_collect_55 : decode cM_collect 55 = .ok (.iconst (-1), 1) := by decide +kernel
theorem ddM_collect_56 : decode cM_collect 56 = .ok (.goto 4, 3) := by decide +kernel
theorem ddM_collect_59 : decode cM_collect 59 = .ok (.iload_n 3, 1) := by decide +kernel
theorem ddM_collect_60 : decode cM_collect 60 = .ok (.ireturn, 1) := by decide +kernel
set_option maxHeartbeats 2000000 in
theorem zBM_collect_60 {G : GXM} {X : CxM} (hG : GokM G) (C : CoM G X cM_collect "HomeFreedModel") (N : mLM X = 4) {d : Nat} (hD : dpM X = d) (hd : 2 ≤ d)  {q : Int32 × Mem} (E : EnM G X (some .int) (some (.int q.1)) q.2 0 0) {w0 : Int32} {M : Mem} (h : BM_collect_60 w0 M = some q) : ZM G X 60 [] [.int w0] M 0 0 := by
  unfold BM_collect_60 at h
  obtain rfl := Option.some.inj h
  exact zz_iret C E ddM_collect_60
set_option maxHeartbeats 2000000 in
theorem zBM_collect_35 {G : GXM} {X : CxM} (hG : GokM G) (C : CoM G X cM_collect "HomeFreedModel") (N : mLM X = 4) {d : Nat} (hD : dpM X = d) (hd : 2 ≤ d)  {q : Int32 × Mem} (E : EnM G X (some .int) (some (.int q.1)) q.2 0 0) {v0 : Nat} {v1 : Int32} {v2 : Int32} {w0 : Int32} {M : Mem} (h : BM_collect_35 v0 v1 v2 w0 M = some q) : ZM G X 35 [(0, .ref v0), (1, .int v1), (2, .int v2)] [.int w0] M 0 0 := by
  unfold BM_collect_35 at h
  refine zz_istore_n (L1 := [(3, .int w0), (0, .ref v0), (1, .int v1), (2, .int v2)]) C ddM_collect_35 rfl N (by decide) rfl ?_
  refine zz_aload_n C 1 ddM_collect_36 rfl rfl ?_
  refine zz_iload_n C 2 ddM_collect_37 rfl rfl ?_
  refine zz_iload_n C 0 ddM_collect_38 rfl rfl ?_
  obtain ⟨q1, hq1, h⟩ := bindN h
  refine zz_callS0 (As := [.int v1, .int w0]) C ddM_collect_39 wd_1398 my_M_listAt mv_M_listAt (xM_listAt hG (d - 1) (by omega) hq1) (by omega) rfl rfl (Nat.le_of_ble_eq_true rfl) ?_
  refine zz_iload_n C 3 ddM_collect_42 rfl rfl ?_
  obtain ⟨h3, h⟩ := gdN h
  obtain ⟨q2, hq2, h⟩ := bindN h
  refine zz_callV0 (As := [.int q1.1, .int v2]) C ddM_collect_43 wd_1495 my_M_moveAhead mv_M_moveAhead ⟨_, rfl, rfl⟩ (xM_moveAhead hG (d - 1) (by omega) hq2) (by omega) h3 rfl rfl (Nat.le_of_ble_eq_true rfl) ?_
  refine zz_aload_n C 1 ddM_collect_46 rfl rfl ?_
  obtain ⟨h4, h⟩ := gdN h
  obtain ⟨h5, h⟩ := gdN h
  refine zz_getr C ddM_collect_47 fl_M_31 rfl h4 (of_decide_eq_true h5) ?_
  refine zz_iload_n C 3 ddM_collect_50 rfl rfl ?_
  obtain ⟨h6, h⟩ := gdN h
  refine zz_iaload C ddM_collect_51 h6 ?_
  refine zz_if_ne (tgt := 59) C ddM_collect_52 rfl (fun hc => ?_) (fun hc => ?_)
  · replace h := iteF h hc
    refine zz_iload_n C 0 ddM_collect_59 rfl rfl ?_
    refine zz_loc (L1 := []) [] rfl ?_
    exact zBM_collect_60 hG C N hD hd E h
  · replace h := iteT h hc
    refine zz_iconst (v := (-1)) C ddM_collect_55 (by decide) ?_
    refine zz_goto (tgt := 60) C ddM_collect_56 rfl ?_
    refine zz_loc (L1 := []) [] rfl ?_
    exact zBM_collect_60 hG C N hD hd E h
set_option maxHeartbeats 2000000 in
theorem xM_collect {G : GXM} {l : Launch} (hG : GokM G) (d : Nat) (hd : 2 ≤ d) {v0 : Nat} {v1 : Int32} {M : Mem} {q : Int32 × Mem} (h : fM_collect v0 v1 M = some q) : ExM G l d 0 0 yM_collect cM_collect 4 (some .int) [.ref v0, .int v1] M (some (.int q.1)) q.2 := by
  refine ex_of hG (by decide) (Nat.le_of_ble_eq_true rfl) ?_
  intro X hl C E N hD hn
  show ZM G X 0 [(2, .int v2), (0, .ref v0), (1, .int v1)] [] M 0 0
  unfold fM_collect at h
  refine zz_iload_n C 1 ddM_collect_0 rfl rfl ?_
  refine zz_iconst (v := 0) C ddM_collect_1 (by decide) ?_
  obtain ⟨q1, hq1, h⟩ := bindN h
  refine zz_callS0 (As := [.int v1, .int 0]) C ddM_collect_2 wd_1398 my_M_listAt mv_M_listAt (xM_listAt hG (d - 1) (by omega) hq1) (by omega) rfl rfl (Nat.le_of_ble_eq_true rfl) ?_
  refine zz_istore_n (L1 := [(2, .int q1.1), (0, .ref v0), (1, .int v1)]) C ddM_collect_5 rfl N (by decide) rfl ?_
  refine zz_aload_n C 1 ddM_collect_6 rfl rfl ?_
  obtain ⟨h2, h⟩ := gdN h
  obtain ⟨h3, h⟩ := gdN h
  refine zz_getr C ddM_collect_7 fl_M_31 rfl h2 (of_decide_eq_true h3) ?_
  refine zz_iload_n C 0 ddM_collect_10 rfl rfl ?_
  obtain ⟨h4, h⟩ := gdN h
  refine zz_iaload C ddM_collect_11 h4 ?_
  refine zz_if_le (tgt := 17) C ddM_collect_12 rfl (fun hc => ?_) (fun hc => ?_)
  · replace h := iteT h hc
    refine zz_aload_n C 1 ddM_collect_17 rfl rfl ?_
    refine zz_getr C ddM_collect_18 fl_M_31 rfl h2 (of_decide_eq_true h3) ?_
    refine zz_iload_n C 2 ddM_collect_21 rfl rfl ?_
    refine zz_iconst (v := 1) C ddM_collect_22 (by decide) ?_
    obtain ⟨q5, hq5, h⟩ := bindN h
    refine zz_callS0 (As := [.int v1, .int 1]) C ddM_collect_23 wd_1398 my_M_listAt mv_M_listAt (xM_listAt hG (d - 1) (by omega) hq5) (by omega) rfl rfl (Nat.le_of_ble_eq_true rfl) ?_
    obtain ⟨h6, h⟩ := gdN h
    refine zz_iaload C ddM_collect_26 h6 ?_
    refine zz_if_le (tgt := 34) C ddM_collect_27 rfl (fun hc => ?_) (fun hc => ?_)
    · replace h := iteT h hc
      refine zz_iconst (v := 2) C ddM_collect_34 (by decide) ?_
      refine zz_loc (L1 := [(0, .ref v0), (1, .int v1), (2, .int q1.1)]) [1, 2, 0] rfl ?_
      exact zBM_collect_35 hG C N hD hd E h
    · replace h := iteF h hc
      refine zz_iconst (v := 1) C ddM_collect_30 (by decide) ?_
      refine zz_goto (tgt := 35) C ddM_collect_31 rfl ?_
      refine zz_loc (L1 := [(0, .ref v0), (1, .int v1), (2, .int q1.1)]) [1, 2, 0] rfl ?_
      exact zBM_collect_35 hG C N hD hd E h
  · replace h := iteF h hc
    refine zz_iconst (v := 0) C ddM_collect_15 (by decide) ?_
    obtain rfl := Option.some.inj h
    exact zz_iret C E ddM_collect_16
theorem ddM_takeFirst_0 : decode cM_takeFirst 0 = .ok (.aload_n 0, 1) := by decide +kernel
theorem ddM_takeFirst_1 : decode cM_takeFirst 1 = .ok (.getfield 31, 3) := by decide +kernel
theorem ddM_takeFirst_4 : decode cM_takeFirst 4 = .ok (.iload_n 1, 1) := by decide +kernel
theorem ddM_takeFirst_5 : decode cM_takeFirst 5 = .ok (.iconst 1, 1) := by decide +kernel
theorem ddM_takeFirst_6 : decode cM_takeFirst 6 = .ok (.iadd, 1) := by decide +kernel
theorem ddM_takeFirst_7 : decode cM_takeFirst 7 = .ok (.iaload, 1) := by decide +kernel
theorem ddM_takeFirst_8 : decode cM_takeFirst 8 = .ok (.istore_n 2, 1) := by decide +kernel
theorem ddM_takeFirst_9 : decode cM_takeFirst 9 = .ok (.iconst 1, 1) := by decide +kernel
theorem ddM_takeFirst_10 : decode cM_takeFirst 10 = .ok (.istore_n 3, 1) := by decide +kernel
theorem ddM_takeFirst_11 : decode cM_takeFirst 11 = .ok (.iload_n 3, 1) := by decide +kernel
theorem ddM_takeFirst_12 : decode cM_takeFirst 12 = .ok (.aload_n 0, 1) := by decide +kernel
theorem ddM_takeFirst_13 : decode cM_takeFirst 13 = .ok (.getfield 31, 3) := by decide +kernel
theorem ddM_takeFirst_16 : decode cM_takeFirst 16 = .ok (.iload_n 1, 1) := by decide +kernel
theorem ddM_takeFirst_17 : decode cM_takeFirst 17 = .ok (.iaload, 1) := by decide +kernel
theorem ddM_takeFirst_18 : decode cM_takeFirst 18 = .ok (.if_icmp .ge 27, 3) := by decide +kernel
theorem ddM_takeFirst_21 : decode cM_takeFirst 21 = .ok (.aload_n 0, 1) := by decide +kernel
theorem ddM_takeFirst_22 : decode cM_takeFirst 22 = .ok (.getfield 31, 3) := by decide +kernel
theorem ddM_takeFirst_25 : decode cM_takeFirst 25 = .ok (.iload_n 1, 1) := by decide +kernel
theorem ddM_takeFirst_26 : decode cM_takeFirst 26 = .ok (.iload_n 3, 1) := by decide +kernel
theorem ddM_takeFirst_27 : decode cM_takeFirst 27 = .ok (.iadd, 1) := by decide +kernel
theorem ddM_takeFirst_28 : decode cM_takeFirst 28 = .ok (.aload_n 0, 1) := by decide +kernel
theorem ddM_takeFirst_29 : decode cM_takeFirst 29 = .ok (.getfield 31, 3) := by decide +kernel
theorem ddM_takeFirst_32 : decode cM_takeFirst 32 = .ok (.iload_n 1, 1) := by decide +kernel
theorem ddM_takeFirst_33 : decode cM_takeFirst 33 = .ok (.iload_n 3, 1) := by decide +kernel
theorem ddM_takeFirst_34 : decode cM_takeFirst 34 = .ok (.iadd, 1) := by decide +kernel
theorem ddM_takeFirst_35 : decode cM_takeFirst 35 = .ok (.iconst 1, 1) := by decide +kernel
theorem ddM_takeFirst_36 : decode cM_takeFirst 36 = .ok (.iadd, 1) := by decide +kernel
theorem ddM_takeFirst_37 : decode cM_takeFirst 37 = .ok (.iaload, 1) := by decide +kernel
theorem ddM_takeFirst_38 : decode cM_takeFirst 38 = .ok (.iastore, 1) := by decide +kernel
theorem ddM_takeFirst_39 : decode cM_takeFirst 39 = .ok (.iinc 3 1, 3) := by decide +kernel
theorem ddM_takeFirst_42 : decode cM_takeFirst 42 = .ok (.goto (-31), 3) := by decide +kernel
theorem ddM_takeFirst_45 : decode cM_takeFirst 45 = .ok (.aload_n 0, 1) := by decide +kernel
theorem ddM_takeFirst_46 : decode cM_takeFirst 46 = .ok (.getfield 31, 3) := by decide +kernel
theorem ddM_takeFirst_49 : decode cM_takeFirst 49 = .ok (.iload_n 1, 1) := by decide +kernel
theorem ddM_takeFirst_50 : decode cM_takeFirst 50 = .ok (.dup2, 1) := by decide +kernel
theorem ddM_takeFirst_51 : decode cM_takeFirst 51 = .ok (.iaload, 1) := by decide +kernel
theorem ddM_takeFirst_52 : decode cM_takeFirst 52 = .ok (.iconst 1, 1) := by decide +kernel
theorem ddM_takeFirst_53 : decode cM_takeFirst 53 = .ok (.isub, 1) := by decide +kernel
theorem ddM_takeFirst_54 : decode cM_takeFirst 54 = .ok (.iastore, 1) := by decide +kernel
theorem ddM_takeFirst_55 : decode cM_takeFirst 55 = .ok (.iload_n 2, 1) := by decide +kernel
theorem ddM_takeFirst_56 : decode cM_takeFirst 56 = .ok (.ireturn, 1) := by decide +kernel
set_option maxHeartbeats 2000000 in
theorem zBM_takeFirst_11 {G : GXM} {X : CxM} (hG : GokM G) (C : CoM G X cM_takeFirst "HomeFreedModel") (N : mLM X = 4) {d : Nat} (hD : dpM X = d) (hd : 0 ≤ d) {v0 : Nat} {v1 : Int32} {v2 : Int32} {K : Nat → Int32 → Int32 → Int32 → Mem → Option ((Int32 × Mem))} {q : (Int32 × Mem)} (hK : ∀ (v3 : Int32) (M : Mem), K v0 v1 v2 v3 M = some q → ZM G X 11 [(0, .ref v0), (1, .int v1), (2, .int v2), (3, .int v3)] [] M 0 0) (hr : ∀ r : Int32 × Mem, q =  r → EnM G X (some .int) (some (.int r.1)) r.2 0 0) {v3 : Int32} {M : Mem} (h : BM_takeFirst_11 K v0 v1 v2 v3 M = some q) : ZM G X 11 [(0, .ref v0), (1, .int v1), (2, .int v2), (3, .int v3)] [] M 0 0 := by
  unfold BM_takeFirst_11 at h
  refine zz_iload_n C 3 ddM_takeFirst_11 rfl rfl ?_
  refine zz_aload_n C 0 ddM_takeFirst_12 rfl rfl ?_
  obtain ⟨h1, h⟩ := gdN h
  obtain ⟨h2, h⟩ := gdN h
  refine zz_getr C ddM_takeFirst_13 fl_M_31 rfl h1 (of_decide_eq_true h2) ?_
  refine zz_iload_n C 1 ddM_takeFirst_16 rfl rfl ?_
  obtain ⟨h3, h⟩ := gdN h
  refine zz_iaload C ddM_takeFirst_17 h3 ?_
  refine zz_icmp_ge (tgt := 45) C ddM_takeFirst_18 rfl (fun hc => ?_) (fun hc => ?_)
  · replace h := iteT h hc
    refine zz_aload_n C 0 ddM_takeFirst_45 rfl rfl ?_
    refine zz_getr C ddM_takeFirst_46 fl_M_31 rfl h1 (of_decide_eq_true h2) ?_
    refine zz_iload_n C 1 ddM_takeFirst_49 rfl rfl ?_
    refine zz_dup2 C ddM_takeFirst_50 rfl rfl ?_
    refine zz_iaload C ddM_takeFirst_51 h3 ?_
    refine zz_iconst (v := 1) C ddM_takeFirst_52 (by decide) ?_
    refine zz_isub C ddM_takeFirst_53 ?_
    obtain ⟨h4, h⟩ := gdN h
    refine zz_iastore C ddM_takeFirst_54 h4 ?_
    refine zz_iload_n C 2 ddM_takeFirst_55 rfl rfl ?_
    exact zz_iret C (hr _ (Option.some.inj h).symm) ddM_takeFirst_56
  · replace h := iteF h hc
    refine zz_aload_n C 0 ddM_takeFirst_21 rfl rfl ?_
    refine zz_getr C ddM_takeFirst_22 fl_M_31 rfl h1 (of_decide_eq_true h2) ?_
    refine zz_iload_n C 1 ddM_takeFirst_25 rfl rfl ?_
    refine zz_iload_n C 3 ddM_takeFirst_26 rfl rfl ?_
    refine zz_iadd C ddM_takeFirst_27 ?_
    refine zz_aload_n C 0 ddM_takeFirst_28 rfl rfl ?_
    refine zz_getr C ddM_takeFirst_29 fl_M_31 rfl h1 (of_decide_eq_true h2) ?_
    refine zz_iload_n C 1 ddM_takeFirst_32 rfl rfl ?_
    refine zz_iload_n C 3 ddM_takeFirst_33 rfl rfl ?_
    refine zz_iadd C ddM_takeFirst_34 ?_
    refine zz_iconst (v := 1) C ddM_takeFirst_35 (by decide) ?_
    refine zz_iadd C ddM_takeFirst_36 ?_
    obtain ⟨h5, h⟩ := gdN h
    refine zz_iaload C ddM_takeFirst_37 h5 ?_
    obtain ⟨h6, h⟩ := gdN h
    refine zz_iastore C ddM_takeFirst_38 h6 ?_
    refine zz_iinc (v := v3 + 1) (L1 := [(3, .int (v3 + 1)), (0, .ref v0), (1, .int v1), (2, .int v2)]) C 3 ddM_takeFirst_39 rfl rfl N (by decide) rfl ?_
    refine zz_goto (tgt := 11) C ddM_takeFirst_42 rfl ?_
    refine zz_loc (L1 := [(0, .ref v0), (1, .int v1), (2, .int v2), (3, .int (v3 + 1))]) [1, 2, 3, 0] rfl ?_
    exact hK _ _ h
set_option maxHeartbeats 2000000 in
theorem zLM_takeFirst_11 {G : GXM} {X : CxM} (hG : GokM G) (C : CoM G X cM_takeFirst "HomeFreedModel") (N : mLM X = 4) {d : Nat} (hD : dpM X = d) (hd : 0 ≤ d) {v0 : Nat} {v1 : Int32} {v2 : Int32} {q : (Int32 × Mem)} : ∀ (f : Nat) (v3 : Int32) (M : Mem), LM_takeFirst_11 f v0 v1 v2 v3 M = some q → (hr : ∀ r : Int32 × Mem, q =  r → EnM G X (some .int) (some (.int r.1)) r.2 0 0) → ZM G X 11 [(0, .ref v0), (1, .int v1), (2, .int v2), (3, .int v3)] [] M 0 0 := by
  intro f
  induction f with
  | zero => intro v3 M h; cases h
  | succ f ih =>
    intro v3 M h hr
    exact zBM_takeFirst_11 hG C N hD hd (K := LM_takeFirst_11 f) (q := q) (fun v3 M h => ih v3 M h hr) hr h
set_option maxHeartbeats 2000000 in
theorem xM_takeFirst {G : GXM} {l : Launch} (hG : GokM G) (d : Nat) (hd : 0 ≤ d) {v0 : Nat} {v1 : Int32} {M : Mem} {q : Int32 × Mem} (h : fM_takeFirst v0 v1 M = some q) : ExM G l d 0 0 yM_takeFirst cM_takeFirst 4 (some .int) [.ref v0, .int v1] M (some (.int q.1)) q.2 := by
  refine ex_of hG (by decide) (Nat.le_of_ble_eq_true rfl) ?_
  intro X hl C E N hD hn
  show ZM G X 0 [(3, .int v3), (2, .int v2), (0, .ref v0), (1, .int v1)] [] M 0 0
  unfold fM_takeFirst at h
  refine zz_aload_n C 0 ddM_takeFirst_0 rfl rfl ?_
  obtain ⟨h1, h⟩ := gdN h
  obtain ⟨h2, h⟩ := gdN h
  refine zz_getr C ddM_takeFirst_1 fl_M_31 rfl h1 (of_decide_eq_true h2) ?_
  refine zz_iload_n C 1 ddM_takeFirst_4 rfl rfl ?_
  refine zz_iconst (v := 1) C ddM_takeFirst_5 (by decide) ?_
  refine zz_iadd C ddM_takeFirst_6 ?_
  obtain ⟨h3, h⟩ := gdN h
  refine zz_iaload C ddM_takeFirst_7 h3 ?_
  refine zz_istore_n (L1 := [(2, .int (giM M (grM M v0 15) (Int32.toNatClampNeg (v1 + 1)))), (0, .ref v0), (1, .int v1)]) C ddM_takeFirst_8 rfl N (by decide) rfl ?_
  refine zz_iconst (v := 1) C ddM_takeFirst_9 (by decide) ?_
  refine zz_istore_n (L1 := [(3, .int 1), (2, .int (giM M (grM M v0 15) (Int32.toNatClampNeg (v1 + 1)))), (0, .ref v0), (1, .int v1)]) C ddM_takeFirst_10 rfl N (by decide) rfl ?_
  refine zz_loc (L1 := [(0, .ref v0), (1, .int v1), (2, .int (giM M (grM M v0 15) (Int32.toNatClampNeg (v1 + 1)))), (3, .int 1)]) [2, 3, 1, 0] rfl ?_
  obtain ⟨q4, hq4, h⟩ := bindN h
  refine zLM_takeFirst_11 hG C N hD hd 1000000 _ _ hq4 ?_
  · intro r5 eq4; subst eq4
    obtain rfl := Option.some.inj h
    exact E
theorem ddM_set_0 : decode cM_set 0 = .ok (.aload_n 0, 1) := by decide +kernel
theorem ddM_set_1 : decode cM_set 1 = .ok (.getfield 31, 3) := by decide +kernel
theorem ddM_set_4 : decode cM_set 4 = .ok (.sipush 166, 3) := by decide +kernel
theorem ddM_set_7 : decode cM_set 7 = .ok (.iload_n 1, 1) := by decide +kernel
theorem ddM_set_8 : decode cM_set 8 = .ok (.imul, 1) := by decide +kernel
theorem ddM_set_9 : decode cM_set 9 = .ok (.iload_n 2, 1) := by decide +kernel
theorem ddM_set_10 : decode cM_set 10 = .ok (.iadd, 1) := by decide +kernel
theorem ddM_set_11 : decode cM_set 11 = .ok (.iload_n 3, 1) := by decide +kernel
theorem ddM_set_12 : decode cM_set 12 = .ok (.iastore, 1) := by decide +kernel
theorem ddM_set_13 : decode cM_set 13 = .ok (.return_, 1) := by decide +kernel
set_option maxHeartbeats 2000000 in
theorem xM_set {G : GXM} {l : Launch} (hG : GokM G) (d : Nat) (hd : 0 ≤ d) {v0 : Nat} {v1 : Int32} {v2 : Int32} {v3 : Int32} {M : Mem} {q : Mem} (h : fM_set v0 v1 v2 v3 M = some q) : ExM G l d 0 0 yM_set cM_set 4 none [.ref v0, .int v1, .int v2, .int v3] M none q := by
  refine ex_of hG (by decide) (Nat.le_of_ble_eq_true rfl) ?_
  intro X hl C E N hD hn
  show ZM G X 0 [(0, .ref v0), (1, .int v1), (2, .int v2), (3, .int v3)] [] M 0 0
  unfold fM_set at h
  refine zz_aload_n C 0 ddM_set_0 rfl rfl ?_
  obtain ⟨h1, h⟩ := gdN h
  obtain ⟨h2, h⟩ := gdN h
  refine zz_getr C ddM_set_1 fl_M_31 rfl h1 (of_decide_eq_true h2) ?_
  refine zz_sipush (v := 166) C ddM_set_4 (by decide) ?_
  refine zz_iload_n C 1 ddM_set_7 rfl rfl ?_
  refine zz_imul C ddM_set_8 ?_
  refine zz_iload_n C 2 ddM_set_9 rfl rfl ?_
  refine zz_iadd C ddM_set_10 ?_
  refine zz_iload_n C 3 ddM_set_11 rfl rfl ?_
  obtain ⟨h3, h⟩ := gdN h
  refine zz_iastore C ddM_set_12 h3 ?_
  obtain rfl := Option.some.inj h
  exact zz_vret C E ddM_set_13
theorem ddM_takeBlock_0 : decode cM_takeBlock 0 = .ok (.aload_n 0, 1) := by decide +kernel
theorem ddM_takeBlock_1 : decode cM_takeBlock 1 = .ok (.iload_n 1, 1) := by decide +kernel
theorem ddM_takeBlock_2 : decode cM_takeBlock 2 = .ok (.iconst 0, 1) := by decide +kernel
theorem ddM_takeBlock_3 : decode cM_takeBlock 3 = .ok (.invokestatic 173, 3) := by decide +kernel
theorem ddM_takeBlock_6 : decode cM_takeBlock 6 = .ok (.invokevirtual 214, 3) := by decide +kernel
theorem ddM_takeBlock_9 : decode cM_takeBlock 9 = .ok (.istore_n 3, 1) := by decide +kernel
theorem ddM_takeBlock_10 : decode cM_takeBlock 10 = .ok (.aload_n 0, 1) := by decide +kernel
theorem ddM_takeBlock_11 : decode cM_takeBlock 11 = .ok (.iload_n 1, 1) := by decide +kernel
theorem ddM_takeBlock_12 : decode cM_takeBlock 12 = .ok (.bipush 126, 2) := by decide +kernel
theorem ddM_takeBlock_14 : decode cM_takeBlock 14 = .ok (.iload_n 3, 1) := by decide +kernel
theorem ddM_takeBlock_15 : decode cM_takeBlock 15 = .ok (.iadd, 1) := by decide +kernel
theorem ddM_takeBlock_16 : decode cM_takeBlock 16 = .ok (.iconst 1, 1) := by decide +kernel
theorem ddM_takeBlock_17 : decode cM_takeBlock 17 = .ok (.invokevirtual 185, 3) := by decide +kernel
theorem ddM_takeBlock_20 : decode cM_takeBlock 20 = .ok (.aload_n 0, 1) := by decide +kernel
theorem ddM_takeBlock_21 : decode cM_takeBlock 21 = .ok (.iload_n 2, 1) := by decide +kernel
theorem ddM_takeBlock_22 : decode cM_takeBlock 22 = .ok (.putfield 217, 3) := by decide +kernel
theorem ddM_takeBlock_25 : decode cM_takeBlock 25 = .ok (.bipush 100, 2) := by decide +kernel
theorem ddM_takeBlock_27 : decode cM_takeBlock 27 = .ok (.iload_n 1, 1) := by decide +kernel
theorem ddM_takeBlock_28 : decode cM_takeBlock 28 = .ok (.imul, 1) := by decide +kernel
theorem ddM_takeBlock_29 : decode cM_takeBlock 29 = .ok (.iload_n 3, 1) := by decide +kernel
theorem ddM_takeBlock_30 : decode cM_takeBlock 30 = .ok (.iadd, 1) := by decide +kernel
theorem ddM_takeBlock_31 : decode cM_takeBlock 31 = .ok (.ireturn, 1) := by decide +kernel
set_option maxHeartbeats 2000000 in
theorem xM_takeBlock {G : GXM} {l : Launch} (hG : GokM G) (d : Nat) (hd : 1 ≤ d) {v0 : Nat} {v1 : Int32} {v2 : Int32} {M : Mem} {q : Int32 × Mem} (h : fM_takeBlock v0 v1 v2 M = some q) : ExM G l d 0 0 yM_takeBlock cM_takeBlock 4 (some .int) [.ref v0, .int v1, .int v2] M (some (.int q.1)) q.2 := by
  refine ex_of hG (by decide) (Nat.le_of_ble_eq_true rfl) ?_
  intro X hl C E N hD hn
  show ZM G X 0 [(3, .int v3), (0, .ref v0), (1, .int v1), (2, .int v2)] [] M 0 0
  unfold fM_takeBlock at h
  refine zz_aload_n C 0 ddM_takeBlock_0 rfl rfl ?_
  refine zz_iload_n C 1 ddM_takeBlock_1 rfl rfl ?_
  refine zz_iconst (v := 0) C ddM_takeBlock_2 (by decide) ?_
  obtain ⟨q1, hq1, h⟩ := bindN h
  refine zz_callS0 (As := [.int v1, .int 0]) C ddM_takeBlock_3 wd_1398 my_M_listAt mv_M_listAt (xM_listAt hG (d - 1) (by omega) hq1) (by omega) rfl rfl (Nat.le_of_ble_eq_true rfl) ?_
  obtain ⟨h3, h⟩ := gdN h
  obtain ⟨q2, hq2, h⟩ := bindN h
  refine zz_callV0 (As := [.int q1.1]) C ddM_takeBlock_6 wd_1507 my_M_takeFirst mv_M_takeFirst ⟨_, rfl, rfl⟩ (xM_takeFirst hG (d - 1) (by omega) hq2) (by omega) h3 rfl rfl (Nat.le_of_ble_eq_true rfl) ?_
  refine zz_istore_n (L1 := [(3, .int q2.1), (0, .ref v0), (1, .int v1), (2, .int v2)]) C ddM_takeBlock_9 rfl N (by decide) rfl ?_
  refine zz_aload_n C 1 ddM_takeBlock_10 rfl rfl ?_
  refine zz_iload_n C 2 ddM_takeBlock_11 rfl rfl ?_
  refine zz_bipush (v := 126) C ddM_takeBlock_12 (by decide) ?_
  refine zz_iload_n C 0 ddM_takeBlock_14 rfl rfl ?_
  refine zz_iadd C ddM_takeBlock_15 ?_
  refine zz_iconst (v := 1) C ddM_takeBlock_16 (by decide) ?_
  obtain ⟨h5, h⟩ := gdN h
  obtain ⟨q4, hq4, h⟩ := bindN h
  refine zz_callV0 (As := [.int v1, .int (126 + q2.1), .int 1]) C ddM_takeBlock_17 wd_1511 my_M_set mv_M_set ⟨_, rfl, rfl⟩ (xM_set hG (d - 1) (by omega) hq4) (by omega) h5 rfl rfl (Nat.le_of_ble_eq_true rfl) ?_
  refine zz_aload_n C 1 ddM_takeBlock_20 rfl rfl ?_
  refine zz_iload_n C 3 ddM_takeBlock_21 rfl rfl ?_
  obtain ⟨h6, h⟩ := gdN h
  refine zz_puti C ddM_takeBlock_22 fl_M_217 rfl rfl rfl h6 ?_
  refine zz_bipush (v := 100) C ddM_takeBlock_25 (by decide) ?_
  refine zz_iload_n C 2 ddM_takeBlock_27 rfl rfl ?_
  refine zz_imul C ddM_takeBlock_28 ?_
  refine zz_iload_n C 0 ddM_takeBlock_29 rfl rfl ?_
  refine zz_iadd C ddM_takeBlock_30 ?_
  obtain rfl := Option.some.inj h
  exact zz_iret C E ddM_takeBlock_31
theorem ddM_addLast_0 : decode cM_addLast 0 = .ok (.aload_n 0, 1) := by decide +kernel
theorem ddM_addLast_1 : decode cM_addLast 1 = .ok (.getfield 31, 3) := by decide +kernel
theorem ddM_addLast_4 : decode cM_addLast 4 = .ok (.iload_n 1, 1) := by decide +kernel
theorem ddM_addLast_5 : decode cM_addLast 5 = .ok (.dup2, 1) := by decide +kernel
theorem ddM_addLast_6 : decode cM_addLast 6 = .ok (.iaload, 1) := by decide +kernel
theorem ddM_addLast_7 : decode cM_addLast 7 = .ok (.iconst 1, 1) := by decide +kernel
theorem ddM_addLast_8 : decode cM_addLast 8 = .ok (.iadd, 1) := by decide +kernel
theorem ddM_addLast_9 : decode cM_addLast 9 = .ok (.iastore, 1) := by decide +kernel
theorem ddM_addLast_10 : decode cM_addLast 10 = .ok (.aload_n 0, 1) := by decide +kernel
theorem ddM_addLast_11 : decode cM_addLast 11 = .ok (.getfield 31, 3) := by decide +kernel
theorem ddM_addLast_14 : decode cM_addLast 14 = .ok (.iload_n 1, 1) := by decide +kernel
theorem ddM_addLast_15 : decode cM_addLast 15 = .ok (.aload_n 0, 1) := by decide +kernel
theorem ddM_addLast_16 : decode cM_addLast 16 = .ok (.getfield 31, 3) := by decide +kernel
theorem ddM_addLast_19 : decode cM_addLast 19 = .ok (.iload_n 1, 1) := by decide +kernel
theorem ddM_addLast_20 : decode cM_addLast 20 = .ok (.iaload, 1) := by decide +kernel
theorem ddM_addLast_21 : decode cM_addLast 21 = .ok (.iadd, 1) := by decide +kernel
theorem ddM_addLast_22 : decode cM_addLast 22 = .ok (.iload_n 2, 1) := by decide +kernel
theorem ddM_addLast_23 : decode cM_addLast 23 = .ok (.iastore, 1) := by decide +kernel
theorem ddM_addLast_24 : decode cM_addLast 24 = .ok (.return_, 1) := by decide +kernel
set_option maxHeartbeats 2000000 in
theorem xM_addLast {G : GXM} {l : Launch} (hG : GokM G) (d : Nat) (hd : 0 ≤ d) {v0 : Nat} {v1 : Int32} {v2 : Int32} {M : Mem} {q : Mem} (h : fM_addLast v0 v1 v2 M = some q) : ExM G l d 0 0 yM_addLast cM_addLast 3 none [.ref v0, .int v1, .int v2] M none q := by
  refine ex_of hG (by decide) (Nat.le_of_ble_eq_true rfl) ?_
  intro X hl C E N hD hn
  show ZM G X 0 [(0, .ref v0), (1, .int v1), (2, .int v2)] [] M 0 0
  unfold fM_addLast at h
  refine zz_aload_n C 0 ddM_addLast_0 rfl rfl ?_
  obtain ⟨h1, h⟩ := gdN h
  obtain ⟨h2, h⟩ := gdN h
  refine zz_getr C ddM_addLast_1 fl_M_31 rfl h1 (of_decide_eq_true h2) ?_
  refine zz_iload_n C 1 ddM_addLast_4 rfl rfl ?_
  refine zz_dup2 C ddM_addLast_5 rfl rfl ?_
  obtain ⟨h3, h⟩ := gdN h
  refine zz_iaload C ddM_addLast_6 h3 ?_
  refine zz_iconst (v := 1) C ddM_addLast_7 (by decide) ?_
  refine zz_iadd C ddM_addLast_8 ?_
  obtain ⟨h4, h⟩ := gdN h
  refine zz_iastore C ddM_addLast_9 h4 ?_
  refine zz_aload_n C 0 ddM_addLast_10 rfl rfl ?_
  refine zz_getr C ddM_addLast_11 fl_M_31 rfl h1 (of_decide_eq_true h2) ?_
  refine zz_iload_n C 1 ddM_addLast_14 rfl rfl ?_
  refine zz_aload_n C 0 ddM_addLast_15 rfl rfl ?_
  refine zz_getr C ddM_addLast_16 fl_M_31 rfl h1 (of_decide_eq_true h2) ?_
  refine zz_iload_n C 1 ddM_addLast_19 rfl rfl ?_
  refine zz_iaload C ddM_addLast_20 h3 ?_
  refine zz_iadd C ddM_addLast_21 ?_
  refine zz_iload_n C 2 ddM_addLast_22 rfl rfl ?_
  obtain ⟨h5, h⟩ := gdN h
  refine zz_iastore C ddM_addLast_23 h5 ?_
  obtain rfl := Option.some.inj h
  exact zz_vret C E ddM_addLast_24
theorem ddM_ownQueue_0 : decode cM_ownQueue 0 = .ok (.aload_n 0, 1) := by decide +kernel
theorem ddM_ownQueue_1 : decode cM_ownQueue 1 = .ok (.iload_n 1, 1) := by decide +kernel
theorem ddM_ownQueue_2 : decode cM_ownQueue 2 = .ok (.iconst 1, 1) := by decide +kernel
theorem ddM_ownQueue_3 : decode cM_ownQueue 3 = .ok (.invokevirtual 170, 3) := by decide +kernel
theorem ddM_ownQueue_6 : decode cM_ownQueue 6 = .ok (.aload_n 0, 1) := by decide +kernel
theorem ddM_ownQueue_7 : decode cM_ownQueue 7 = .ok (.iload_n 1, 1) := by decide +kernel
theorem ddM_ownQueue_8 : decode cM_ownQueue 8 = .ok (.iconst 2, 1) := by decide +kernel
theorem ddM_ownQueue_9 : decode cM_ownQueue 9 = .ok (.invokevirtual 170, 3) := by decide +kernel
theorem ddM_ownQueue_12 : decode cM_ownQueue 12 = .ok (.invokestatic 182, 3) := by decide +kernel
theorem ddM_ownQueue_15 : decode cM_ownQueue 15 = .ok (.ireturn, 1) := by decide +kernel
set_option maxHeartbeats 2000000 in
theorem xM_ownQueue {G : GXM} {l : Launch} (hG : GokM G) (d : Nat) (hd : 1 ≤ d) {v0 : Nat} {v1 : Int32} {M : Mem} {q : Int32 × Mem} (h : fM_ownQueue v0 v1 M = some q) : ExM G l d 0 0 yM_ownQueue cM_ownQueue 2 (some .int) [.ref v0, .int v1] M (some (.int q.1)) q.2 := by
  refine ex_of hG (by decide) (Nat.le_of_ble_eq_true rfl) ?_
  intro X hl C E N hD hn
  show ZM G X 0 [(0, .ref v0), (1, .int v1)] [] M 0 0
  unfold fM_ownQueue at h
  refine zz_aload_n C 0 ddM_ownQueue_0 rfl rfl ?_
  refine zz_iload_n C 1 ddM_ownQueue_1 rfl rfl ?_
  refine zz_iconst (v := 1) C ddM_ownQueue_2 (by decide) ?_
  obtain ⟨h2, h⟩ := gdN h
  obtain ⟨q1, hq1, h⟩ := bindN h
  refine zz_callV0 (As := [.int v1, .int 1]) C ddM_ownQueue_3 wd_1378 my_M_of mv_M_of ⟨_, rfl, rfl⟩ (xM_of hG (d - 1) (by omega) hq1) (by omega) h2 rfl rfl (Nat.le_of_ble_eq_true rfl) ?_
  refine zz_aload_n C 0 ddM_ownQueue_6 rfl rfl ?_
  refine zz_iload_n C 1 ddM_ownQueue_7 rfl rfl ?_
  refine zz_iconst (v := 2) C ddM_ownQueue_8 (by decide) ?_
  obtain ⟨h4, h⟩ := gdN h
  obtain ⟨q3, hq3, h⟩ := bindN h
  refine zz_callV0 (As := [.int v1, .int 2]) C ddM_ownQueue_9 wd_1378 my_M_of mv_M_of ⟨_, rfl, rfl⟩ (xM_of hG (d - 1) (by omega) hq3) (by omega) h4 rfl rfl (Nat.le_of_ble_eq_true rfl) ?_
  obtain ⟨q5, hq5, h⟩ := bindN h
  refine zz_callS0 (As := [.int q1.1, .int q3.1]) C ddM_ownQueue_12 wd_1432 my_M_queueAt mv_M_queueAt (xM_queueAt hG (d - 1) (by omega) hq5) (by omega) rfl rfl (Nat.le_of_ble_eq_true rfl) ?_
  obtain rfl := Option.some.inj h
  exact zz_iret C E ddM_ownQueue_15
theorem ddM_enqueue_0 : decode cM_enqueue 0 = .ok (.aload_n 0, 1) := by decide +kernel
theorem ddM_enqueue_1 : decode cM_enqueue 1 = .ok (.iload_n 1, 1) := by decide +kernel
theorem ddM_enqueue_2 : decode cM_enqueue 2 = .ok (.iconst 0, 1) := by decide +kernel
theorem ddM_enqueue_3 : decode cM_enqueue 3 = .ok (.iconst 1, 1) := by decide +kernel
theorem ddM_enqueue_4 : decode cM_enqueue 4 = .ok (.invokevirtual 185, 3) := by decide +kernel
theorem ddM_enqueue_7 : decode cM_enqueue 7 = .ok (.aload_n 0, 1) := by decide +kernel
theorem ddM_enqueue_8 : decode cM_enqueue 8 = .ok (.aload_n 0, 1) := by decide +kernel
theorem ddM_enqueue_9 : decode cM_enqueue 9 = .ok (.iload_n 1, 1) := by decide +kernel
theorem ddM_enqueue_10 : decode cM_enqueue 10 = .ok (.invokevirtual 189, 3) := by decide +kernel
theorem ddM_enqueue_13 : decode cM_enqueue 13 = .ok (.iload_n 1, 1) := by decide +kernel
theorem ddM_enqueue_14 : decode cM_enqueue 14 = .ok (.invokevirtual 192, 3) := by decide +kernel
theorem ddM_enqueue_17 : decode cM_enqueue 17 = .ok (.return_, 1) := by decide +kernel
set_option maxHeartbeats 2000000 in
theorem xM_enqueue {G : GXM} {l : Launch} (hG : GokM G) (d : Nat) (hd : 2 ≤ d) {v0 : Nat} {v1 : Int32} {M : Mem} {q : Mem} (h : fM_enqueue v0 v1 M = some q) : ExM G l d 0 0 yM_enqueue cM_enqueue 2 none [.ref v0, .int v1] M none q := by
  refine ex_of hG (by decide) (Nat.le_of_ble_eq_true rfl) ?_
  intro X hl C E N hD hn
  show ZM G X 0 [(0, .ref v0), (1, .int v1)] [] M 0 0
  unfold fM_enqueue at h
  refine zz_aload_n C 0 ddM_enqueue_0 rfl rfl ?_
  refine zz_iload_n C 1 ddM_enqueue_1 rfl rfl ?_
  refine zz_iconst (v := 0) C ddM_enqueue_2 (by decide) ?_
  refine zz_iconst (v := 1) C ddM_enqueue_3 (by decide) ?_
  obtain ⟨h2, h⟩ := gdN h
  obtain ⟨q1, hq1, h⟩ := bindN h
  refine zz_callV0 (As := [.int v1, .int 0, .int 1]) C ddM_enqueue_4 wd_1511 my_M_set mv_M_set ⟨_, rfl, rfl⟩ (xM_set hG (d - 1) (by omega) hq1) (by omega) h2 rfl rfl (Nat.le_of_ble_eq_true rfl) ?_
  refine zz_aload_n C 0 ddM_enqueue_7 rfl rfl ?_
  refine zz_aload_n C 0 ddM_enqueue_8 rfl rfl ?_
  refine zz_iload_n C 1 ddM_enqueue_9 rfl rfl ?_
  obtain ⟨h4, h⟩ := gdN h
  obtain ⟨q3, hq3, h⟩ := bindN h
  refine zz_callV0 (As := [.int v1]) C ddM_enqueue_10 wd_1523 my_M_ownQueue mv_M_ownQueue ⟨_, rfl, rfl⟩ (xM_ownQueue hG (d - 1) (by omega) hq3) (by omega) h4 rfl rfl (Nat.le_of_ble_eq_true rfl) ?_
  refine zz_iload_n C 1 ddM_enqueue_13 rfl rfl ?_
  obtain ⟨h6, h⟩ := gdN h
  obtain ⟨q5, hq5, h⟩ := bindN h
  refine zz_callV0 (As := [.int q3.1, .int v1]) C ddM_enqueue_14 wd_1515 my_M_addLast mv_M_addLast ⟨_, rfl, rfl⟩ (xM_addLast hG (d - 1) (by omega) hq5) (by omega) h6 rfl rfl (Nat.le_of_ble_eq_true rfl) ?_
  obtain rfl := Option.some.inj h
  exact zz_vret C E ddM_enqueue_17
theorem ddM_getOnce_0 : decode cM_getOnce 0 = .ok (.iload_n 1, 1) := by decide +kernel
theorem ddM_getOnce_1 : decode cM_getOnce 1 = .ok (.iload_n 2, 1) := by decide +kernel
theorem ddM_getOnce_2 : decode cM_getOnce 2 = .ok (.invokestatic 182, 3) := by decide +kernel
theorem ddM_getOnce_5 : decode cM_getOnce 5 = .ok (.istore_n 3, 1) := by decide +kernel
theorem ddM_getOnce_6 : decode cM_getOnce 6 = .ok (.iconst 1, 1) := by decide +kernel
theorem ddM_getOnce_7 : decode cM_getOnce 7 = .ok (.istore 4, 2) := by decide +kernel
theorem ddM_getOnce_9 : decode cM_getOnce 9 = .ok (.aload_n 0, 1) := by decide +kernel
theorem ddM_getOnce_10 : decode cM_getOnce 10 = .ok (.getfield 31, 3) := by decide +kernel
theorem ddM_getOnce_13 : decode cM_getOnce 13 = .ok (.iload_n 3, 1) := by decide +kernel
theorem ddM_getOnce_14 : decode cM_getOnce 14 = .ok (.iaload, 1) := by decide +kernel
theorem ddM_getOnce_15 : decode cM_getOnce 15 = .ok (.ifCond .le 65, 3) := by decide +kernel
theorem ddM_getOnce_18 : decode cM_getOnce 18 = .ok (.aload_n 0, 1) := by decide +kernel
theorem ddM_getOnce_19 : decode cM_getOnce 19 = .ok (.getfield 31, 3) := by decide +kernel
theorem ddM_getOnce_22 : decode cM_getOnce 22 = .ok (.iload_n 3, 1) := by decide +kernel
theorem ddM_getOnce_23 : decode cM_getOnce 23 = .ok (.iconst 1, 1) := by decide +kernel
theorem ddM_getOnce_24 : decode cM_getOnce 24 = .ok (.iadd, 1) := by decide +kernel
theorem ddM_getOnce_25 : decode cM_getOnce 25 = .ok (.iaload, 1) := by decide +kernel
theorem ddM_getOnce_26 : decode cM_getOnce 26 = .ok (.istore 5, 2) := by decide +kernel
theorem ddM_getOnce_28 : decode cM_getOnce 28 = .ok (.aload_n 0, 1) := by decide +kernel
theorem ddM_getOnce_29 : decode cM_getOnce 29 = .ok (.iload 5, 2) := by decide +kernel
theorem ddM_getOnce_31 : decode cM_getOnce 31 = .ok (.invokevirtual 220, 3) := by decide +kernel
theorem ddM_getOnce_34 : decode cM_getOnce 34 = .ok (.istore 6, 2) := by decide +kernel
theorem ddM_getOnce_36 : decode cM_getOnce 36 = .ok (.iload 6, 2) := by decide +kernel
theorem ddM_getOnce_38 : decode cM_getOnce 38 = .ok (.iconst (-1), 1) := by decide +kernel
theorem ddM_getOnce_39 : decode cM_getOnce 39 = .ok (.if_icmp .eq 21, 3) := by decide +kernel
theorem ddM_getOnce_42 : decode cM_getOnce 42 = .ok (.aload_n 0, 1) := by decide +kernel
theorem ddM_getOnce_43 : decode cM_getOnce 43 = .ok (.iload 5, 2) := by decide +kernel
theorem ddM_getOnce_45 : decode cM_getOnce 45 = .ok (.iload 4, 2) := by decide +kernel
theorem ddM_getOnce_47 : decode cM_getOnce 47 = .ok (.ifCond .eq 8, 3) := by decide +kernel
theorem ddM_getOnce_50 : decode cM_getOnce 50 = .ok (.iload 6, 2) := by decide +kernel
theorem ddM_getOnce_52 : decode cM_getOnce 52 = .ok (.goto 4, 3) := by decide +kernel
theorem ddM_getOnce_55 : decode cM_getOnce 55 = .ok (.iconst 3, 1) := by decide +kernel
theorem ddM_getOnce_56 : decode cM_getOnce 56 = .ok (.invokevirtual 223, 3) := by decide +kernel
theorem ddM_getOnce_59 : decode cM_getOnce 59 = .ok (.ireturn, 1) := by decide +kernel
theorem ddM_getOnce_60 : decode cM_getOnce 60 = .ok (.aload_n 0, 1) := by decide +kernel
theorem ddM_getOnce_61 : decode cM_getOnce 61 = .ok (.iload_n 3, 1) := by decide +kernel
theorem ddM_getOnce_62 : decode cM_getOnce 62 = .ok (.invokevirtual 214, 3) := by decide +kernel
theorem ddM_getOnce_65 : decode cM_getOnce 65 = .ok (.pop, 1) := by decide +kernel
theorem ddM_getOnce_66 : decode cM_getOnce 66 = .ok (.aload_n 0, 1) := by decide +kernel
theorem ddM_getOnce_67 : decode cM_getOnce 67 = .ok (.iload 5, 2) := by decide +kernel
theorem ddM_getOnce_69 : decode cM_getOnce 69 = .ok (.iconst 0, 1) := by decide +kernel
theorem ddM_getOnce_70 : decode cM_getOnce 70 = .ok (.iconst 2, 1) := by decide +kernel
theorem ddM_getOnce_71 : decode cM_getOnce 71 = .ok (.invokevirtual 185, 3) := by decide +kernel
theorem ddM_getOnce_74 : decode cM_getOnce 74 = .ok (.iconst 0, 1) := by decide +kernel
theorem ddM_getOnce_75 : decode cM_getOnce 75 = .ok (.istore 4, 2) := by decide +kernel
theorem ddM_getOnce_77 : decode cM_getOnce 77 = .ok (.goto (-68), 3) := by decide +kernel
theorem ddM_getOnce_80 : decode cM_getOnce 80 = .ok (.aload_n 0, 1) := by decide +kernel
theorem ddM_getOnce_81 : decode cM_getOnce 81 = .ok (.iload_n 2, 1) := by decide +kernel
theorem ddM_getOnce_82 : decode cM_getOnce 82 = .ok (.iconst 1, 1) := by decide +kernel
theorem ddM_getOnce_83 : decode cM_getOnce 83 = .ok (.invokevirtual 207, 3) := by decide +kernel
theorem ddM_getOnce_86 : decode cM_getOnce 86 = .ok (.istore 5, 2) := by decide +kernel
theorem ddM_getOnce_88 : decode cM_getOnce 88 = .ok (.iload 5, 2) := by decide +kernel
theorem ddM_getOnce_90 : decode cM_getOnce 90 = .ok (.iconst (-1), 1) := by decide +kernel
theorem ddM_getOnce_91 : decode cM_getOnce 91 = .ok (.if_icmp .eq 7, 3) := by decide +kernel
theorem ddM_getOnce_94 : decode cM_getOnce 94 = .ok (.iconst 1, 1) := by decide +kernel
theorem ddM_getOnce_95 : decode cM_getOnce 95 = .ok (.goto 4, 3) := by decide +kernel
theorem ddM_getOnce_98 : decode cM_getOnce 98 = .ok (.iconst 0, 1) := by decide +kernel
theorem ddM_getOnce_99 : decode cM_getOnce 99 = .ok (.istore 6, 2) := by decide +kernel
theorem ddM_getOnce_101 : decode cM_getOnce 101 = .ok (.iload 6, 2) := by decide +kernel
theorem ddM_getOnce_103 : decode cM_getOnce 103 = .ok (.ifCond .ne 70, 3) := by decide +kernel
theorem ddM_getOnce_106 : decode cM_getOnce 106 = .ok (.aload_n 0, 1) := by decide +kernel
theorem ddM_getOnce_107 : decode cM_getOnce 107 = .ok (.iload_n 2, 1) := by decide +kernel
theorem ddM_getOnce_108 : decode cM_getOnce 108 = .ok (.iconst 0, 1) := by decide +kernel
theorem ddM_getOnce_109 : decode cM_getOnce 109 = .ok (.invokevirtual 207, 3) := by decide +kernel
theorem ddM_getOnce_112 : decode cM_getOnce 112 = .ok (.istore 5, 2) := by decide +kernel
theorem ddM_getOnce_114 : decode cM_getOnce 114 = .ok (.aload_n 0, 1) := by decide +kernel
theorem ddM_getOnce_115 : decode cM_getOnce 115 = .ok (.iload 5, 2) := by decide +kernel
theorem ddM_getOnce_117 : decode cM_getOnce 117 = .ok (.iconst 2, 1) := by decide +kernel
theorem ddM_getOnce_118 : decode cM_getOnce 118 = .ok (.iload_n 2, 1) := by decide +kernel
theorem ddM_getOnce_119 : decode cM_getOnce 119 = .ok (.invokevirtual 185, 3) := by decide +kernel
theorem ddM_getOnce_122 : decode cM_getOnce 122 = .ok (.iconst 0, 1) := by decide +kernel
theorem ddM_getOnce_123 : decode cM_getOnce 123 = .ok (.istore 7, 2) := by decide +kernel
theorem ddM_getOnce_125 : decode cM_getOnce 125 = .ok (.iload 7, 2) := by decide +kernel
theorem ddM_getOnce_127 : decode cM_getOnce 127 = .ok (.aload_n 0, 1) := by decide +kernel
theorem ddM_getOnce_128 : decode cM_getOnce 128 = .ok (.getfield 19, 3) := by decide +kernel
theorem ddM_getOnce_131 : decode cM_getOnce 131 = .ok (.iconst 2, 1) := by decide +kernel
theorem ddM_getOnce_132 : decode cM_getOnce 132 = .ok (.iaload, 1) := by decide +kernel
theorem ddM_getOnce_133 : decode cM_getOnce 133 = .ok (.aload_n 0, 1) := by decide +kernel
theorem ddM_getOnce_134 : decode cM_getOnce 134 = .ok (.getfield 22, 3) := by decide +kernel
theorem ddM_getOnce_137 : decode cM_getOnce 137 = .ok (.iload_n 2, 1) := by decide +kernel
theorem ddM_getOnce_138 : decode cM_getOnce 138 = .ok (.iaload, 1) := by decide +kernel
theorem ddM_getOnce_139 : decode cM_getOnce 139 = .ok (.idiv, 1) := by decide +kernel
theorem ddM_getOnce_140 : decode cM_getOnce 140 = .ok (.if_icmp .ge 33, 3) := by decide +kernel
theorem ddM_getOnce_143 : decode cM_getOnce 143 = .ok (.aload_n 0, 1) := by decide +kernel
theorem ddM_getOnce_144 : decode cM_getOnce 144 = .ok (.iload 5, 2) := by decide +kernel
theorem ddM_getOnce_146 : decode cM_getOnce 146 = .ok (.iconst 0, 1) := by decide +kernel
theorem ddM_getOnce_147 : decode cM_getOnce 147 = .ok (.invokestatic 173, 3) := by decide +kernel
theorem ddM_getOnce_150 : decode cM_getOnce 150 = .ok (.iload 7, 2) := by decide +kernel
theorem ddM_getOnce_152 : decode cM_getOnce 152 = .ok (.invokevirtual 192, 3) := by decide +kernel
theorem ddM_getOnce_155 : decode cM_getOnce 155 = .ok (.aload_n 0, 1) := by decide +kernel
theorem ddM_getOnce_156 : decode cM_getOnce 156 = .ok (.iload 5, 2) := by decide +kernel
theorem ddM_getOnce_158 : decode cM_getOnce 158 = .ok (.bipush 126, 2) := by decide +kernel
theorem ddM_getOnce_160 : decode cM_getOnce 160 = .ok (.iload 7, 2) := by decide +kernel
theorem ddM_getOnce_162 : decode cM_getOnce 162 = .ok (.iadd, 1) := by decide +kernel
theorem ddM_getOnce_163 : decode cM_getOnce 163 = .ok (.iconst 0, 1) := by decide +kernel
theorem ddM_getOnce_164 : decode cM_getOnce 164 = .ok (.invokevirtual 185, 3) := by decide +kernel
theorem ddM_getOnce_167 : decode cM_getOnce 167 = .ok (.iinc 7 1, 3) := by decide +kernel
theorem ddM_getOnce_170 : decode cM_getOnce 170 = .ok (.goto (-45), 3) := by decide +kernel
theorem ddM_getOnce_173 : decode cM_getOnce 173 = .ok (.aload_n 0, 1) := by decide +kernel
theorem ddM_getOnce_174 : decode cM_getOnce 174 = .ok (.iload 5, 2) := by decide +kernel
theorem ddM_getOnce_176 : decode cM_getOnce 176 = .ok (.iconst 1, 1) := by decide +kernel
theorem ddM_getOnce_177 : decode cM_getOnce 177 = .ok (.iload_n 1, 1) := by decide +kernel
theorem ddM_getOnce_178 : decode cM_getOnce 178 = .ok (.invokevirtual 185, 3) := by decide +kernel
theorem ddM_getOnce_181 : decode cM_getOnce 181 = .ok (.aload_n 0, 1) := by decide +kernel
theorem ddM_getOnce_182 : decode cM_getOnce 182 = .ok (.iload 5, 2) := by decide +kernel
theorem ddM_getOnce_184 : decode cM_getOnce 184 = .ok (.invokevirtual 226, 3) := by decide +kernel
theorem ddM_getOnce_187 : decode cM_getOnce 187 = .ok (.aload_n 0, 1) := by decide +kernel
theorem ddM_getOnce_188 : decode cM_getOnce 188 = .ok (.iload 5, 2) := by decide +kernel
theorem ddM_getOnce_190 : decode cM_getOnce 190 = .ok (.invokevirtual 220, 3) := by decide +kernel
theorem ddM_getOnce_193 : decode cM_getOnce 193 = .ok (.pop, 1) := by decide +kernel
theorem ddM_getOnce_194 : decode cM_getOnce 194 = .ok (.aload_n 0, 1) := by decide +kernel
theorem ddM_getOnce_195 : decode cM_getOnce 195 = .ok (.iload 5, 2) := by decide +kernel
theorem ddM_getOnce_197 : decode cM_getOnce 197 = .ok (.iload 6, 2) := by decide +kernel
theorem ddM_getOnce_199 : decode cM_getOnce 199 = .ok (.ifCond .eq 7, 3) := by decide +kernel
theorem ddM_getOnce_202 : decode cM_getOnce 202 = .ok (.iconst 4, 1) := by decide +kernel
theorem ddM_getOnce_203 : decode cM_getOnce 203 = .ok (.goto 4, 3) := by decide +kernel
theorem ddM_getOnce_206 : decode cM_getOnce 206 = .ok (.iconst 5, 1) := by decide +kernel
theorem ddM_getOnce_207 : decode cM_getOnce 207 = .ok (.invokevirtual 223, 3) := by decide +kernel
theorem ddM_getOnce_210 : decode cM_getOnce 210 = .ok (.ireturn, 1) := by decide +kernel
set_option maxHeartbeats 2000000 in
theorem zBM_getOnce_207 {G : GXM} {X : CxM} (hG : GokM G) (C : CoM G X cM_getOnce "HomeFreedModel") (N : mLM X = 8) {d : Nat} (hD : dpM X = d) (hd : 3 ≤ d)  {q : Int32 × Mem} (E : EnM G X (some .int) (some (.int q.1)) q.2 0 0) {w0 : Nat} {w1 : Int32} {w2 : Int32} {M : Mem} (h : BM_getOnce_207 w0 w1 w2 M = some q) : ZM G X 207 [] [.int w2, .int w1, .ref w0] M 0 0 := by
  unfold BM_getOnce_207 at h
  obtain ⟨h2, h⟩ := gdN h
  obtain ⟨q1, hq1, h⟩ := bindN h
  refine zz_callV0 (As := [.int w1, .int w2]) C ddM_getOnce_207 wd_1503 my_M_takeBlock mv_M_takeBlock ⟨_, rfl, rfl⟩ (xM_takeBlock hG (d - 1) (by omega) hq1) (by omega) h2 rfl rfl (Nat.le_of_ble_eq_true rfl) ?_
  obtain rfl := Option.some.inj h
  exact zz_iret C E ddM_getOnce_210
set_option maxHeartbeats 2000000 in
theorem zBM_getOnce_173 {G : GXM} {X : CxM} (hG : GokM G) (C : CoM G X cM_getOnce "HomeFreedModel") (N : mLM X = 8) {d : Nat} (hD : dpM X = d) (hd : 3 ≤ d)  {q : Int32 × Mem} (E : EnM G X (some .int) (some (.int q.1)) q.2 0 0) {v0 : Nat} {v1 : Int32} {v5 : Int32} {v6 : Int32} {M : Mem} (h : BM_getOnce_173 v0 v1 v5 v6 M = some q) : ZM G X 173 [(0, .ref v0), (1, .int v1), (5, .int v5), (6, .int v6)] [] M 0 0 := by
  unfold BM_getOnce_173 at h
  refine zz_aload_n C 0 ddM_getOnce_173 rfl rfl ?_
  refine zz_iload C 2 ddM_getOnce_174 rfl ?_
  refine zz_iconst (v := 1) C ddM_getOnce_176 (by decide) ?_
  refine zz_iload_n C 1 ddM_getOnce_177 rfl rfl ?_
  obtain ⟨h2, h⟩ := gdN h
  obtain ⟨q1, hq1, h⟩ := bindN h
  refine zz_callV0 (As := [.int v5, .int 1, .int v1]) C ddM_getOnce_178 wd_1511 my_M_set mv_M_set ⟨_, rfl, rfl⟩ (xM_set hG (d - 1) (by omega) hq1) (by omega) h2 rfl rfl (Nat.le_of_ble_eq_true rfl) ?_
  refine zz_aload_n C 0 ddM_getOnce_181 rfl rfl ?_
  refine zz_iload C 2 ddM_getOnce_182 rfl ?_
  obtain ⟨h4, h⟩ := gdN h
  obtain ⟨q3, hq3, h⟩ := bindN h
  refine zz_callV0 (As := [.int v5]) C ddM_getOnce_184 wd_1519 my_M_enqueue mv_M_enqueue ⟨_, rfl, rfl⟩ (xM_enqueue hG (d - 1) (by omega) hq3) (by omega) h4 rfl rfl (Nat.le_of_ble_eq_true rfl) ?_
  refine zz_aload_n C 0 ddM_getOnce_187 rfl rfl ?_
  refine zz_iload C 2 ddM_getOnce_188 rfl ?_
  obtain ⟨h6, h⟩ := gdN h
  obtain ⟨q5, hq5, h⟩ := bindN h
  refine zz_callV0 (As := [.int v5]) C ddM_getOnce_190 wd_1491 my_M_collect mv_M_collect ⟨_, rfl, rfl⟩ (xM_collect hG (d - 1) (by omega) hq5) (by omega) h6 rfl rfl (Nat.le_of_ble_eq_true rfl) ?_
  refine zz_pop C ddM_getOnce_193 rfl ?_
  refine zz_aload_n C 0 ddM_getOnce_194 rfl rfl ?_
  refine zz_iload C 2 ddM_getOnce_195 rfl ?_
  refine zz_iload C 3 ddM_getOnce_197 rfl ?_
  refine zz_if_eq (tgt := 206) C ddM_getOnce_199 rfl (fun hc => ?_) (fun hc => ?_)
  · replace h := iteT h hc
    refine zz_iconst (v := 5) C ddM_getOnce_206 (by decide) ?_
    refine zz_loc (L1 := []) [] rfl ?_
    exact zBM_getOnce_207 hG C N hD hd E h
  · replace h := iteF h hc
    refine zz_iconst (v := 4) C ddM_getOnce_202 (by decide) ?_
    refine zz_goto (tgt := 207) C ddM_getOnce_203 rfl ?_
    refine zz_loc (L1 := []) [] rfl ?_
    exact zBM_getOnce_207 hG C N hD hd E h
set_option maxHeartbeats 2000000 in
theorem zBM_getOnce_125 {G : GXM} {X : CxM} (hG : GokM G) (C : CoM G X cM_getOnce "HomeFreedModel") (N : mLM X = 8) {d : Nat} (hD : dpM X = d) (hd : 3 ≤ d) {v0 : Nat} {v1 : Int32} {v2 : Int32} {v5 : Int32} {v6 : Int32} {K : Nat → Int32 → Int32 → Int32 → Int32 → Int32 → Mem → Option ((Mem))} {q : (Mem)} (hK : ∀ (v7 : Int32) (M : Mem), K v0 v1 v2 v5 v6 v7 M = some q → ZM G X 125 [(0, .ref v0), (1, .int v1), (2, .int v2), (5, .int v5), (6, .int v6), (7, .int v7)] [] M 0 0) (hx0 : ∀ y : Mem, q = y → ZM G X 173 [(0, .ref v0), (1, .int v1), (5, .int v5), (6, .int v6)] [] y 0 0) {v7 : Int32} {M : Mem} (h : BM_getOnce_125 K v0 v1 v2 v5 v6 v7 M = some q) : ZM G X 125 [(0, .ref v0), (1, .int v1), (2, .int v2), (5, .int v5), (6, .int v6), (7, .int v7)] [] M 0 0 := by
  unfold BM_getOnce_125 at h
  refine zz_iload C 5 ddM_getOnce_125 rfl ?_
  refine zz_aload_n C 0 ddM_getOnce_127 rfl rfl ?_
  obtain ⟨h1, h⟩ := gdN h
  obtain ⟨h2, h⟩ := gdN h
  refine zz_getr C ddM_getOnce_128 fl_M_19 rfl h1 (of_decide_eq_true h2) ?_
  refine zz_iconst (v := 2) C ddM_getOnce_131 (by decide) ?_
  obtain ⟨h3, h⟩ := gdN h
  refine zz_iaload C ddM_getOnce_132 h3 ?_
  refine zz_aload_n C 0 ddM_getOnce_133 rfl rfl ?_
  obtain ⟨h4, h⟩ := gdN h
  refine zz_getr C ddM_getOnce_134 fl_M_22 rfl h1 (of_decide_eq_true h4) ?_
  refine zz_iload_n C 2 ddM_getOnce_137 rfl rfl ?_
  obtain ⟨h5, h⟩ := gdN h
  refine zz_iaload C ddM_getOnce_138 h5 ?_
  obtain ⟨h6, h⟩ := gdN h
  refine zz_idiv C ddM_getOnce_139 (of_decide_eq_true h6) ?_
  refine zz_icmp_ge (tgt := 173) C ddM_getOnce_140 rfl (fun hc => ?_) (fun hc => ?_)
  · replace h := iteT h hc
    refine zz_loc (L1 := [(0, .ref v0), (1, .int v1), (5, .int v5), (6, .int v6)]) [0, 1, 3, 4] rfl ?_
    exact hx0 _ (Option.some.inj h).symm
  · replace h := iteF h hc
    refine zz_aload_n C 0 ddM_getOnce_143 rfl rfl ?_
    refine zz_iload C 3 ddM_getOnce_144 rfl ?_
    refine zz_iconst (v := 0) C ddM_getOnce_146 (by decide) ?_
    obtain ⟨q7, hq7, h⟩ := bindN h
    refine zz_callS0 (As := [.int v5, .int 0]) C ddM_getOnce_147 wd_1398 my_M_listAt mv_M_listAt (xM_listAt hG (d - 1) (by omega) hq7) (by omega) rfl rfl (Nat.le_of_ble_eq_true rfl) ?_
    refine zz_iload C 5 ddM_getOnce_150 rfl ?_
    obtain ⟨h9, h⟩ := gdN h
    obtain ⟨q8, hq8, h⟩ := bindN h
    refine zz_callV0 (As := [.int q7.1, .int v7]) C ddM_getOnce_152 wd_1515 my_M_addLast mv_M_addLast ⟨_, rfl, rfl⟩ (xM_addLast hG (d - 1) (by omega) hq8) (by omega) h9 rfl rfl (Nat.le_of_ble_eq_true rfl) ?_
    refine zz_aload_n C 0 ddM_getOnce_155 rfl rfl ?_
    refine zz_iload C 3 ddM_getOnce_156 rfl ?_
    refine zz_bipush (v := 126) C ddM_getOnce_158 (by decide) ?_
    refine zz_iload C 5 ddM_getOnce_160 rfl ?_
    refine zz_iadd C ddM_getOnce_162 ?_
    refine zz_iconst (v := 0) C ddM_getOnce_163 (by decide) ?_
    obtain ⟨h11, h⟩ := gdN h
    obtain ⟨q10, hq10, h⟩ := bindN h
    refine zz_callV0 (As := [.int v5, .int (126 + v7), .int 0]) C ddM_getOnce_164 wd_1511 my_M_set mv_M_set ⟨_, rfl, rfl⟩ (xM_set hG (d - 1) (by omega) hq10) (by omega) h11 rfl rfl (Nat.le_of_ble_eq_true rfl) ?_
    refine zz_iinc (v := v7 + 1) (L1 := [(7, .int (v7 + 1)), (0, .ref v0), (1, .int v1), (2, .int v2), (5, .int v5), (6, .int v6)]) C 5 ddM_getOnce_167 rfl rfl N (by decide) rfl ?_
    refine zz_goto (tgt := 125) C ddM_getOnce_170 rfl ?_
    refine zz_loc (L1 := [(0, .ref v0), (1, .int v1), (2, .int v2), (5, .int v5), (6, .int v6), (7, .int (v7 + 1))]) [1, 2, 3, 4, 5, 0] rfl ?_
    exact hK _ _ h
set_option maxHeartbeats 2000000 in
theorem zLM_getOnce_125 {G : GXM} {X : CxM} (hG : GokM G) (C : CoM G X cM_getOnce "HomeFreedModel") (N : mLM X = 8) {d : Nat} (hD : dpM X = d) (hd : 3 ≤ d) {v0 : Nat} {v1 : Int32} {v2 : Int32} {v5 : Int32} {v6 : Int32} {q : (Mem)} : ∀ (f : Nat) (v7 : Int32) (M : Mem), LM_getOnce_125 f v0 v1 v2 v5 v6 v7 M = some q → (hx0 : ∀ y : Mem, q = y → ZM G X 173 [(0, .ref v0), (1, .int v1), (5, .int v5), (6, .int v6)] [] y 0 0) → ZM G X 125 [(0, .ref v0), (1, .int v1), (2, .int v2), (5, .int v5), (6, .int v6), (7, .int v7)] [] M 0 0 := by
  intro f
  induction f with
  | zero => intro v7 M h; cases h
  | succ f ih =>
    intro v7 M h hx0
    exact zBM_getOnce_125 hG C N hD hd (K := LM_getOnce_125 f) (q := q) (fun v7 M h => ih v7 M h hx0) hx0 h
set_option maxHeartbeats 2000000 in
theorem zBM_getOnce_99 {G : GXM} {X : CxM} (hG : GokM G) (C : CoM G X cM_getOnce "HomeFreedModel") (N : mLM X = 8) {d : Nat} (hD : dpM X = d) (hd : 3 ≤ d)  {q : Int32 × Mem} (E : EnM G X (some .int) (some (.int q.1)) q.2 0 0) {v0 : Nat} {v1 : Int32} {v2 : Int32} {v5 : Int32} {w0 : Int32} {M : Mem} (h : BM_getOnce_99 v0 v1 v2 v5 w0 M = some q) : ZM G X 99 [(0, .ref v0), (1, .int v1), (2, .int v2), (5, .int v5)] [.int w0] M 0 0 := by
  unfold BM_getOnce_99 at h
  refine zz_istore (L1 := [(6, .int w0), (0, .ref v0), (1, .int v1), (2, .int v2), (5, .int v5)]) C ddM_getOnce_99 N (by decide) rfl ?_
  refine zz_iload C 0 ddM_getOnce_101 rfl ?_
  refine zz_if_ne (tgt := 173) C ddM_getOnce_103 rfl (fun hc => ?_) (fun hc => ?_)
  · replace h := iteF h hc
    refine zz_loc (L1 := [(0, .ref v0), (1, .int v1), (5, .int v5), (6, .int w0)]) [1, 2, 4, 0] rfl ?_
    exact zBM_getOnce_173 hG C N hD hd E h
  · replace h := iteT h hc
    refine zz_aload_n C 1 ddM_getOnce_106 rfl rfl ?_
    refine zz_iload_n C 3 ddM_getOnce_107 rfl rfl ?_
    refine zz_iconst (v := 0) C ddM_getOnce_108 (by decide) ?_
    obtain ⟨h2, h⟩ := gdN h
    obtain ⟨q1, hq1, h⟩ := bindN h
    refine zz_callV0 (As := [.int v2, .int 0]) C ddM_getOnce_109 wd_1471 my_M_otherPage mv_M_otherPage ⟨_, rfl, rfl⟩ (xM_otherPage hG (d - 1) (by omega) hq1) (by omega) h2 rfl rfl (Nat.le_of_ble_eq_true rfl) ?_
    refine zz_istore (L1 := [(5, .int q1.1), (6, .int w0), (0, .ref v0), (1, .int v1), (2, .int v2)]) C ddM_getOnce_112 N (by decide) rfl ?_
    refine zz_aload_n C 2 ddM_getOnce_114 rfl rfl ?_
    refine zz_iload C 0 ddM_getOnce_115 rfl ?_
    refine zz_iconst (v := 2) C ddM_getOnce_117 (by decide) ?_
    refine zz_iload_n C 4 ddM_getOnce_118 rfl rfl ?_
    obtain ⟨h4, h⟩ := gdN h
    obtain ⟨q3, hq3, h⟩ := bindN h
    refine zz_callV0 (As := [.int q1.1, .int 2, .int v2]) C ddM_getOnce_119 wd_1511 my_M_set mv_M_set ⟨_, rfl, rfl⟩ (xM_set hG (d - 1) (by omega) hq3) (by omega) h4 rfl rfl (Nat.le_of_ble_eq_true rfl) ?_
    refine zz_iconst (v := 0) C ddM_getOnce_122 (by decide) ?_
    refine zz_istore (L1 := [(7, .int 0), (5, .int q1.1), (6, .int w0), (0, .ref v0), (1, .int v1), (2, .int v2)]) C ddM_getOnce_123 N (by decide) rfl ?_
    refine zz_loc (L1 := [(0, .ref v0), (1, .int v1), (2, .int v2), (5, .int q1.1), (6, .int w0), (7, .int 0)]) [3, 4, 5, 1, 2, 0] rfl ?_
    obtain ⟨q5, hq5, h⟩ := bindN h
    refine zLM_getOnce_125 hG C N hD hd 1000000 _ _ hq5 ?_
    · intro y6 eq5; subst eq5
      exact zBM_getOnce_173 hG C N hD hd E h
set_option maxHeartbeats 2000000 in
theorem zBM_getOnce_56 {G : GXM} {X : CxM} (hG : GokM G) (C : CoM G X cM_getOnce "HomeFreedModel") (N : mLM X = 8) {d : Nat} (hD : dpM X = d) (hd : 3 ≤ d)  {q : Int32 × Mem} (E : EnM G X (some .int) (some (.int q.1)) q.2 0 0) {w0 : Nat} {w1 : Int32} {w2 : Int32} {M : Mem} (h : BM_getOnce_56 w0 w1 w2 M = some q) : ZM G X 56 [] [.int w2, .int w1, .ref w0] M 0 0 := by
  unfold BM_getOnce_56 at h
  obtain ⟨h2, h⟩ := gdN h
  obtain ⟨q1, hq1, h⟩ := bindN h
  refine zz_callV0 (As := [.int w1, .int w2]) C ddM_getOnce_56 wd_1503 my_M_takeBlock mv_M_takeBlock ⟨_, rfl, rfl⟩ (xM_takeBlock hG (d - 1) (by omega) hq1) (by omega) h2 rfl rfl (Nat.le_of_ble_eq_true rfl) ?_
  obtain rfl := Option.some.inj h
  exact zz_iret C E ddM_getOnce_59
set_option maxHeartbeats 2000000 in
theorem zBM_getOnce_9 {G : GXM} {X : CxM} (hG : GokM G) (C : CoM G X cM_getOnce "HomeFreedModel") (N : mLM X = 8) {d : Nat} (hD : dpM X = d) (hd : 3 ≤ d) {v0 : Nat} {v1 : Int32} {v2 : Int32} {v3 : Int32} {K : Nat → Int32 → Int32 → Int32 → Int32 → Mem → Option ((Int32 × Int32 × Int32 × Mem) ⊕ (Mem))} {q : (Int32 × Int32 × Int32 × Mem) ⊕ (Mem)} (hK : ∀ (v4 : Int32) (M : Mem), K v0 v1 v2 v3 v4 M = some q → ZM G X 9 [(0, .ref v0), (1, .int v1), (2, .int v2), (3, .int v3), (4, .int v4)] [] M 0 0) (hx0 : ∀ y : Int32 × Int32 × Int32 × Mem, q = (.inl y) → ZM G X 42 [(0, .ref v0), (4, .int y.1), (5, .int y.2.1), (6, .int y.2.2.1)] [] y.2.2.2 0 0) (hx1 : ∀ y : Mem, q = (.inr y) → ZM G X 80 [(0, .ref v0), (1, .int v1), (2, .int v2)] [] y 0 0) {v4 : Int32} {M : Mem} (h : BM_getOnce_9 K v0 v1 v2 v3 v4 M = some q) : ZM G X 9 [(0, .ref v0), (1, .int v1), (2, .int v2), (3, .int v3), (4, .int v4)] [] M 0 0 := by
  unfold BM_getOnce_9 at h
  refine zz_aload_n C 0 ddM_getOnce_9 rfl rfl ?_
  obtain ⟨h1, h⟩ := gdN h
  obtain ⟨h2, h⟩ := gdN h
  refine zz_getr C ddM_getOnce_10 fl_M_31 rfl h1 (of_decide_eq_true h2) ?_
  refine zz_iload_n C 3 ddM_getOnce_13 rfl rfl ?_
  obtain ⟨h3, h⟩ := gdN h
  refine zz_iaload C ddM_getOnce_14 h3 ?_
  refine zz_if_le (tgt := 80) C ddM_getOnce_15 rfl (fun hc => ?_) (fun hc => ?_)
  · replace h := iteT h hc
    refine zz_loc (L1 := [(0, .ref v0), (1, .int v1), (2, .int v2)]) [0, 1, 2] rfl ?_
    exact hx1 _ (Option.some.inj h).symm
  · replace h := iteF h hc
    refine zz_aload_n C 0 ddM_getOnce_18 rfl rfl ?_
    refine zz_getr C ddM_getOnce_19 fl_M_31 rfl h1 (of_decide_eq_true h2) ?_
    refine zz_iload_n C 3 ddM_getOnce_22 rfl rfl ?_
    refine zz_iconst (v := 1) C ddM_getOnce_23 (by decide) ?_
    refine zz_iadd C ddM_getOnce_24 ?_
    obtain ⟨h4, h⟩ := gdN h
    refine zz_iaload C ddM_getOnce_25 h4 ?_
    refine zz_istore (L1 := [(5, .int (giM M (grM M v0 15) (Int32.toNatClampNeg (v3 + 1)))), (0, .ref v0), (1, .int v1), (2, .int v2), (3, .int v3), (4, .int v4)]) C ddM_getOnce_26 N (by decide) rfl ?_
    refine zz_aload_n C 1 ddM_getOnce_28 rfl rfl ?_
    refine zz_iload C 0 ddM_getOnce_29 rfl ?_
    obtain ⟨q5, hq5, h⟩ := bindN h
    refine zz_callV0 (As := [.int (giM M (grM M v0 15) (Int32.toNatClampNeg (v3 + 1)))]) C ddM_getOnce_31 wd_1491 my_M_collect mv_M_collect ⟨_, rfl, rfl⟩ (xM_collect hG (d - 1) (by omega) hq5) (by omega) h1 rfl rfl (Nat.le_of_ble_eq_true rfl) ?_
    refine zz_istore (L1 := [(6, .int q5.1), (5, .int (giM M (grM M v0 15) (Int32.toNatClampNeg (v3 + 1)))), (0, .ref v0), (1, .int v1), (2, .int v2), (3, .int v3), (4, .int v4)]) C ddM_getOnce_34 N (by decide) rfl ?_
    refine zz_iload C 0 ddM_getOnce_36 rfl ?_
    refine zz_iconst (v := (-1)) C ddM_getOnce_38 (by decide) ?_
    refine zz_icmp_eq (tgt := 60) C ddM_getOnce_39 rfl (fun hc => ?_) (fun hc => ?_)
    · replace h := iteT h hc
      refine zz_aload_n C 2 ddM_getOnce_60 rfl rfl ?_
      refine zz_iload_n C 5 ddM_getOnce_61 rfl rfl ?_
      obtain ⟨h7, h⟩ := gdN h
      obtain ⟨q6, hq6, h⟩ := bindN h
      refine zz_callV0 (As := [.int v3]) C ddM_getOnce_62 wd_1507 my_M_takeFirst mv_M_takeFirst ⟨_, rfl, rfl⟩ (xM_takeFirst hG (d - 1) (by omega) hq6) (by omega) h7 rfl rfl (Nat.le_of_ble_eq_true rfl) ?_
      refine zz_pop C ddM_getOnce_65 rfl ?_
      refine zz_aload_n C 2 ddM_getOnce_66 rfl rfl ?_
      refine zz_iload C 1 ddM_getOnce_67 rfl ?_
      refine zz_iconst (v := 0) C ddM_getOnce_69 (by decide) ?_
      refine zz_iconst (v := 2) C ddM_getOnce_70 (by decide) ?_
      obtain ⟨h9, h⟩ := gdN h
      obtain ⟨q8, hq8, h⟩ := bindN h
      refine zz_callV0 (As := [.int (giM M (grM M v0 15) (Int32.toNatClampNeg (v3 + 1))), .int 0, .int 2]) C ddM_getOnce_71 wd_1511 my_M_set mv_M_set ⟨_, rfl, rfl⟩ (xM_set hG (d - 1) (by omega) hq8) (by omega) h9 rfl rfl (Nat.le_of_ble_eq_true rfl) ?_
      refine zz_iconst (v := 0) C ddM_getOnce_74 (by decide) ?_
      refine zz_istore (L1 := [(4, .int 0), (6, .int q5.1), (5, .int (giM M (grM M v0 15) (Int32.toNatClampNeg (v3 + 1)))), (0, .ref v0), (1, .int v1), (2, .int v2), (3, .int v3)]) C ddM_getOnce_75 N (by decide) rfl ?_
      refine zz_goto (tgt := 9) C ddM_getOnce_77 rfl ?_
      refine zz_loc (L1 := [(0, .ref v0), (1, .int v1), (2, .int v2), (3, .int v3), (4, .int 0)]) [3, 4, 5, 6, 0] rfl ?_
      exact hK _ _ h
    · replace h := iteF h hc
      refine zz_loc (L1 := [(0, .ref v0), (4, .int v4), (5, .int (giM M (grM M v0 15) (Int32.toNatClampNeg (v3 + 1)))), (6, .int q5.1)]) [2, 6, 1, 0] rfl ?_
      exact hx0 _ (Option.some.inj h).symm
set_option maxHeartbeats 2000000 in
theorem zLM_getOnce_9 {G : GXM} {X : CxM} (hG : GokM G) (C : CoM G X cM_getOnce "HomeFreedModel") (N : mLM X = 8) {d : Nat} (hD : dpM X = d) (hd : 3 ≤ d) {v0 : Nat} {v1 : Int32} {v2 : Int32} {v3 : Int32} {q : (Int32 × Int32 × Int32 × Mem) ⊕ (Mem)} : ∀ (f : Nat) (v4 : Int32) (M : Mem), LM_getOnce_9 f v0 v1 v2 v3 v4 M = some q → (hx0 : ∀ y : Int32 × Int32 × Int32 × Mem, q = (.inl y) → ZM G X 42 [(0, .ref v0), (4, .int y.1), (5, .int y.2.1), (6, .int y.2.2.1)] [] y.2.2.2 0 0) → (hx1 : ∀ y : Mem, q = (.inr y) → ZM G X 80 [(0, .ref v0), (1, .int v1), (2, .int v2)] [] y 0 0) → ZM G X 9 [(0, .ref v0), (1, .int v1), (2, .int v2), (3, .int v3), (4, .int v4)] [] M 0 0 := by
  intro f
  induction f with
  | zero => intro v4 M h; cases h
  | succ f ih =>
    intro v4 M h hx0 hx1
    exact zBM_getOnce_9 hG C N hD hd (K := LM_getOnce_9 f) (q := q) (fun v4 M h => ih v4 M h hx0 hx1) hx0 hx1 h
set_option maxHeartbeats 2000000 in
theorem xM_getOnce {G : GXM} {l : Launch} (hG : GokM G) (d : Nat) (hd : 3 ≤ d) {v0 : Nat} {v1 : Int32} {v2 : Int32} {M : Mem} {q : Int32 × Mem} (h : fM_getOnce v0 v1 v2 M = some q) : ExM G l d 0 0 yM_getOnce cM_getOnce 8 (some .int) [.ref v0, .int v1, .int v2] M (some (.int q.1)) q.2 := by
  refine ex_of hG (by decide) (Nat.le_of_ble_eq_true rfl) ?_
  intro X hl C E N hD hn
  show ZM G X 0 [(4, .int v4), (3, .int v3), (0, .ref v0), (1, .int v1), (2, .int v2)] [] M 0 0
  unfold fM_getOnce at h
  refine zz_iload_n C 1 ddM_getOnce_0 rfl rfl ?_
  refine zz_iload_n C 2 ddM_getOnce_1 rfl rfl ?_
  obtain ⟨q1, hq1, h⟩ := bindN h
  refine zz_callS0 (As := [.int v1, .int v2]) C ddM_getOnce_2 wd_1432 my_M_queueAt mv_M_queueAt (xM_queueAt hG (d - 1) (by omega) hq1) (by omega) rfl rfl (Nat.le_of_ble_eq_true rfl) ?_
  refine zz_istore_n (L1 := [(3, .int q1.1), (0, .ref v0), (1, .int v1), (2, .int v2)]) C ddM_getOnce_5 rfl N (by decide) rfl ?_
  refine zz_iconst (v := 1) C ddM_getOnce_6 (by decide) ?_
  refine zz_istore (L1 := [(4, .int 1), (3, .int q1.1), (0, .ref v0), (1, .int v1), (2, .int v2)]) C ddM_getOnce_7 N (by decide) rfl ?_
  refine zz_loc (L1 := [(0, .ref v0), (1, .int v1), (2, .int v2), (3, .int q1.1), (4, .int 1)]) [2, 3, 4, 1, 0] rfl ?_
  obtain ⟨q2, hq2, h⟩ := bindN h
  refine zLM_getOnce_9 hG C N hD hd 1000000 _ _ hq2 ?_ ?_
  · intro y3 eq2; subst eq2
    refine zz_aload_n C 0 ddM_getOnce_42 rfl rfl ?_
    refine zz_iload C 2 ddM_getOnce_43 rfl ?_
    refine zz_iload C 1 ddM_getOnce_45 rfl ?_
    refine zz_if_eq (tgt := 55) C ddM_getOnce_47 rfl (fun hc => ?_) (fun hc => ?_)
    · replace h := iteT h hc
      refine zz_iconst (v := 3) C ddM_getOnce_55 (by decide) ?_
      refine zz_loc (L1 := []) [] rfl ?_
      exact zBM_getOnce_56 hG C N hD hd E h
    · replace h := iteF h hc
      refine zz_iload C 3 ddM_getOnce_50 rfl ?_
      refine zz_goto (tgt := 56) C ddM_getOnce_52 rfl ?_
      refine zz_loc (L1 := []) [] rfl ?_
      exact zBM_getOnce_56 hG C N hD hd E h
  · intro y4 eq2; subst eq2
    refine zz_aload_n C 0 ddM_getOnce_80 rfl rfl ?_
    refine zz_iload_n C 2 ddM_getOnce_81 rfl rfl ?_
    refine zz_iconst (v := 1) C ddM_getOnce_82 (by decide) ?_
    obtain ⟨h6, h⟩ := gdN h
    obtain ⟨q5, hq5, h⟩ := bindN h
    refine zz_callV0 (As := [.int v2, .int 1]) C ddM_getOnce_83 wd_1471 my_M_otherPage mv_M_otherPage ⟨_, rfl, rfl⟩ (xM_otherPage hG (d - 1) (by omega) hq5) (by omega) h6 rfl rfl (Nat.le_of_ble_eq_true rfl) ?_
    refine zz_istore (L1 := [(5, .int q5.1), (0, .ref v0), (1, .int v1), (2, .int v2)]) C ddM_getOnce_86 N (by decide) rfl ?_
    refine zz_iload C 0 ddM_getOnce_88 rfl ?_
    refine zz_iconst (v := (-1)) C ddM_getOnce_90 (by decide) ?_
    refine zz_icmp_eq (tgt := 98) C ddM_getOnce_91 rfl (fun hc => ?_) (fun hc => ?_)
    · replace h := iteT h hc
      refine zz_iconst (v := 0) C ddM_getOnce_98 (by decide) ?_
      refine zz_loc (L1 := [(0, .ref v0), (1, .int v1), (2, .int v2), (5, .int q5.1)]) [1, 2, 3, 0] rfl ?_
      exact zBM_getOnce_99 hG C N hD hd E h
    · replace h := iteF h hc
      refine zz_iconst (v := 1) C ddM_getOnce_94 (by decide) ?_
      refine zz_goto (tgt := 99) C ddM_getOnce_95 rfl ?_
      refine zz_loc (L1 := [(0, .ref v0), (1, .int v1), (2, .int v2), (5, .int q5.1)]) [1, 2, 3, 0] rfl ?_
      exact zBM_getOnce_99 hG C N hD hd E h
theorem ddM_takeOut_0 : decode cM_takeOut 0 = .ok (.iconst 0, 1) := by decide +kernel
theorem ddM_takeOut_1 : decode cM_takeOut 1 = .ok (.istore_n 3, 1) := by decide +kernel
theorem ddM_takeOut_2 : decode cM_takeOut 2 = .ok (.iconst 1, 1) := by decide +kernel
theorem ddM_takeOut_3 : decode cM_takeOut 3 = .ok (.istore 4, 2) := by decide +kernel
theorem ddM_takeOut_5 : decode cM_takeOut 5 = .ok (.iload 4, 2) := by decide +kernel
theorem ddM_takeOut_7 : decode cM_takeOut 7 = .ok (.aload_n 0, 1) := by decide +kernel
theorem ddM_takeOut_8 : decode cM_takeOut 8 = .ok (.getfield 31, 3) := by decide +kernel
theorem ddM_takeOut_11 : decode cM_takeOut 11 = .ok (.iload_n 1, 1) := by decide +kernel
theorem ddM_takeOut_12 : decode cM_takeOut 12 = .ok (.iaload, 1) := by decide +kernel
theorem ddM_takeOut_13 : decode cM_takeOut 13 = .ok (.if_icmp .gt 42, 3) := by decide +kernel
theorem ddM_takeOut_16 : decode cM_takeOut 16 = .ok (.aload_n 0, 1) := by decide +kernel
theorem ddM_takeOut_17 : decode cM_takeOut 17 = .ok (.getfield 31, 3) := by decide +kernel
theorem ddM_takeOut_20 : decode cM_takeOut 20 = .ok (.iload_n 1, 1) := by decide +kernel
theorem ddM_takeOut_21 : decode cM_takeOut 21 = .ok (.iload 4, 2) := by decide +kernel
theorem ddM_takeOut_23 : decode cM_takeOut 23 = .ok (.iadd, 1) := by decide +kernel
theorem ddM_takeOut_24 : decode cM_takeOut 24 = .ok (.iaload, 1) := by decide +kernel
theorem ddM_takeOut_25 : decode cM_takeOut 25 = .ok (.iload_n 2, 1) := by decide +kernel
theorem ddM_takeOut_26 : decode cM_takeOut 26 = .ok (.if_icmp .eq 23, 3) := by decide +kernel
theorem ddM_takeOut_29 : decode cM_takeOut 29 = .ok (.iinc 3 1, 3) := by decide +kernel
theorem ddM_takeOut_32 : decode cM_takeOut 32 = .ok (.aload_n 0, 1) := by decide +kernel
theorem ddM_takeOut_33 : decode cM_takeOut 33 = .ok (.getfield 31, 3) := by decide +kernel
theorem ddM_takeOut_36 : decode cM_takeOut 36 = .ok (.iload_n 1, 1) := by decide +kernel
theorem ddM_takeOut_37 : decode cM_takeOut 37 = .ok (.iload_n 3, 1) := by decide +kernel
theorem ddM_takeOut_38 : decode cM_takeOut 38 = .ok (.iadd, 1) := by decide +kernel
theorem ddM_takeOut_39 : decode cM_takeOut 39 = .ok (.aload_n 0, 1) := by decide +kernel
theorem ddM_takeOut_40 : decode cM_takeOut 40 = .ok (.getfield 31, 3) := by decide +kernel
theorem ddM_takeOut_43 : decode cM_takeOut 43 = .ok (.iload_n 1, 1) := by decide +kernel
theorem ddM_takeOut_44 : decode cM_takeOut 44 = .ok (.iload 4, 2) := by decide +kernel
theorem ddM_takeOut_46 : decode cM_takeOut 46 = .ok (.iadd, 1) := by decide +kernel
theorem ddM_takeOut_47 : decode cM_takeOut 47 = .ok (.iaload, 1) := by decide +kernel
theorem ddM_takeOut_48 : decode cM_takeOut 48 = .ok (.iastore, 1) := by decide +kernel
theorem ddM_takeOut_49 : decode cM_takeOut 49 = .ok (.iinc 4 1, 3) := by decide +kernel
theorem ddM_takeOut_52 : decode cM_takeOut 52 = .ok (.goto (-47), 3) := by decide +kernel
theorem ddM_takeOut_55 : decode cM_takeOut 55 = .ok (.aload_n 0, 1) := by decide +kernel
theorem ddM_takeOut_56 : decode cM_takeOut 56 = .ok (.getfield 31, 3) := by decide +kernel
theorem ddM_takeOut_59 : decode cM_takeOut 59 = .ok (.iload_n 1, 1) := by decide +kernel
theorem ddM_takeOut_60 : decode cM_takeOut 60 = .ok (.iload_n 3, 1) := by decide +kernel
theorem ddM_takeOut_61 : decode cM_takeOut 61 = .ok (.iastore, 1) := by decide +kernel
theorem ddM_takeOut_62 : decode cM_takeOut 62 = .ok (.return_, 1) := by decide +kernel
set_option maxHeartbeats 2000000 in
theorem zBM_takeOut_49 {G : GXM} {X : CxM} (hG : GokM G) (C : CoM G X cM_takeOut "HomeFreedModel") (N : mLM X = 5) {d : Nat} (hD : dpM X = d) (hd : 0 ≤ d) {v0 : Nat} {v1 : Int32} {v2 : Int32} {K : Nat → Int32 → Int32 → Int32 → Int32 → Mem → Option ((Mem))} {q : (Mem)} (hK : ∀ (v3 : Int32) (v4 : Int32) (M : Mem), K v0 v1 v2 v3 v4 M = some q → ZM G X 5 [(0, .ref v0), (1, .int v1), (2, .int v2), (3, .int v3), (4, .int v4)] [] M 0 0) (hr : ∀ r : Mem, q =  r → EnM G X none none r 0 0) {v3 : Int32} {v4 : Int32} {M : Mem} (h : BM_takeOut_49 K v0 v1 v2 v3 v4 M = some q) : ZM G X 49 [(0, .ref v0), (1, .int v1), (2, .int v2), (3, .int v3), (4, .int v4)] [] M 0 0 := by
  unfold BM_takeOut_49 at h
  refine zz_iinc (v := v4 + 1) (L1 := [(4, .int (v4 + 1)), (0, .ref v0), (1, .int v1), (2, .int v2), (3, .int v3)]) C 4 ddM_takeOut_49 rfl rfl N (by decide) rfl ?_
  refine zz_goto (tgt := 5) C ddM_takeOut_52 rfl ?_
  refine zz_loc (L1 := [(0, .ref v0), (1, .int v1), (2, .int v2), (3, .int v3), (4, .int (v4 + 1))]) [1, 2, 3, 4, 0] rfl ?_
  exact hK _ _ _ h
set_option maxHeartbeats 2000000 in
theorem zBM_takeOut_5 {G : GXM} {X : CxM} (hG : GokM G) (C : CoM G X cM_takeOut "HomeFreedModel") (N : mLM X = 5) {d : Nat} (hD : dpM X = d) (hd : 0 ≤ d) {v0 : Nat} {v1 : Int32} {v2 : Int32} {K : Nat → Int32 → Int32 → Int32 → Int32 → Mem → Option ((Mem))} {q : (Mem)} (hK : ∀ (v3 : Int32) (v4 : Int32) (M : Mem), K v0 v1 v2 v3 v4 M = some q → ZM G X 5 [(0, .ref v0), (1, .int v1), (2, .int v2), (3, .int v3), (4, .int v4)] [] M 0 0) (hr : ∀ r : Mem, q =  r → EnM G X none none r 0 0) {v3 : Int32} {v4 : Int32} {M : Mem} (h : BM_takeOut_5 K v0 v1 v2 v3 v4 M = some q) : ZM G X 5 [(0, .ref v0), (1, .int v1), (2, .int v2), (3, .int v3), (4, .int v4)] [] M 0 0 := by
  unfold BM_takeOut_5 at h
  refine zz_iload C 4 ddM_takeOut_5 rfl ?_
  refine zz_aload_n C 0 ddM_takeOut_7 rfl rfl ?_
  obtain ⟨h1, h⟩ := gdN h
  obtain ⟨h2, h⟩ := gdN h
  refine zz_getr C ddM_takeOut_8 fl_M_31 rfl h1 (of_decide_eq_true h2) ?_
  refine zz_iload_n C 1 ddM_takeOut_11 rfl rfl ?_
  obtain ⟨h3, h⟩ := gdN h
  refine zz_iaload C ddM_takeOut_12 h3 ?_
  refine zz_icmp_gt (tgt := 55) C ddM_takeOut_13 rfl (fun hc => ?_) (fun hc => ?_)
  · replace h := iteT h hc
    refine zz_aload_n C 0 ddM_takeOut_55 rfl rfl ?_
    refine zz_getr C ddM_takeOut_56 fl_M_31 rfl h1 (of_decide_eq_true h2) ?_
    refine zz_iload_n C 1 ddM_takeOut_59 rfl rfl ?_
    refine zz_iload_n C 3 ddM_takeOut_60 rfl rfl ?_
    obtain ⟨h4, h⟩ := gdN h
    refine zz_iastore C ddM_takeOut_61 h4 ?_
    exact zz_vret C (hr _ (Option.some.inj h).symm) ddM_takeOut_62
  · replace h := iteF h hc
    refine zz_aload_n C 0 ddM_takeOut_16 rfl rfl ?_
    refine zz_getr C ddM_takeOut_17 fl_M_31 rfl h1 (of_decide_eq_true h2) ?_
    refine zz_iload_n C 1 ddM_takeOut_20 rfl rfl ?_
    refine zz_iload C 4 ddM_takeOut_21 rfl ?_
    refine zz_iadd C ddM_takeOut_23 ?_
    obtain ⟨h5, h⟩ := gdN h
    refine zz_iaload C ddM_takeOut_24 h5 ?_
    refine zz_iload_n C 2 ddM_takeOut_25 rfl rfl ?_
    refine zz_icmp_eq (tgt := 49) C ddM_takeOut_26 rfl (fun hc => ?_) (fun hc => ?_)
    · replace h := iteT h hc
      exact zBM_takeOut_49 hG C N hD hd hK hr h
    · replace h := iteF h hc
      refine zz_iinc (v := v3 + 1) (L1 := [(3, .int (v3 + 1)), (0, .ref v0), (1, .int v1), (2, .int v2), (4, .int v4)]) C 3 ddM_takeOut_29 rfl rfl N (by decide) rfl ?_
      refine zz_aload_n C 1 ddM_takeOut_32 rfl rfl ?_
      refine zz_getr C ddM_takeOut_33 fl_M_31 rfl h1 (of_decide_eq_true h2) ?_
      refine zz_iload_n C 2 ddM_takeOut_36 rfl rfl ?_
      refine zz_iload_n C 0 ddM_takeOut_37 rfl rfl ?_
      refine zz_iadd C ddM_takeOut_38 ?_
      refine zz_aload_n C 1 ddM_takeOut_39 rfl rfl ?_
      refine zz_getr C ddM_takeOut_40 fl_M_31 rfl h1 (of_decide_eq_true h2) ?_
      refine zz_iload_n C 2 ddM_takeOut_43 rfl rfl ?_
      refine zz_iload C 4 ddM_takeOut_44 rfl ?_
      refine zz_iadd C ddM_takeOut_46 ?_
      refine zz_iaload C ddM_takeOut_47 h5 ?_
      obtain ⟨h6, h⟩ := gdN h
      refine zz_iastore C ddM_takeOut_48 h6 ?_
      refine zz_loc (L1 := [(0, .ref v0), (1, .int v1), (2, .int v2), (3, .int (v3 + 1)), (4, .int v4)]) [1, 2, 3, 0, 4] rfl ?_
      exact zBM_takeOut_49 hG C N hD hd hK hr h
set_option maxHeartbeats 2000000 in
theorem zLM_takeOut_5 {G : GXM} {X : CxM} (hG : GokM G) (C : CoM G X cM_takeOut "HomeFreedModel") (N : mLM X = 5) {d : Nat} (hD : dpM X = d) (hd : 0 ≤ d) {v0 : Nat} {v1 : Int32} {v2 : Int32} {q : (Mem)} : ∀ (f : Nat) (v3 : Int32) (v4 : Int32) (M : Mem), LM_takeOut_5 f v0 v1 v2 v3 v4 M = some q → (hr : ∀ r : Mem, q =  r → EnM G X none none r 0 0) → ZM G X 5 [(0, .ref v0), (1, .int v1), (2, .int v2), (3, .int v3), (4, .int v4)] [] M 0 0 := by
  intro f
  induction f with
  | zero => intro v3 v4 M h; cases h
  | succ f ih =>
    intro v3 v4 M h hr
    exact zBM_takeOut_5 hG C N hD hd (K := LM_takeOut_5 f) (q := q) (fun v3 v4 M h => ih v3 v4 M h hr) hr h
set_option maxHeartbeats 2000000 in
theorem xM_takeOut {G : GXM} {l : Launch} (hG : GokM G) (d : Nat) (hd : 0 ≤ d) {v0 : Nat} {v1 : Int32} {v2 : Int32} {M : Mem} {q : Mem} (h : fM_takeOut v0 v1 v2 M = some q) : ExM G l d 0 0 yM_takeOut cM_takeOut 5 none [.ref v0, .int v1, .int v2] M none q := by
  refine ex_of hG (by decide) (Nat.le_of_ble_eq_true rfl) ?_
  intro X hl C E N hD hn
  show ZM G X 0 [(4, .int v4), (3, .int v3), (0, .ref v0), (1, .int v1), (2, .int v2)] [] M 0 0
  unfold fM_takeOut at h
  refine zz_iconst (v := 0) C ddM_takeOut_0 (by decide) ?_
  refine zz_istore_n (L1 := [(3, .int 0), (0, .ref v0), (1, .int v1), (2, .int v2)]) C ddM_takeOut_1 rfl N (by decide) rfl ?_
  refine zz_iconst (v := 1) C ddM_takeOut_2 (by decide) ?_
  refine zz_istore (L1 := [(4, .int 1), (3, .int 0), (0, .ref v0), (1, .int v1), (2, .int v2)]) C ddM_takeOut_3 N (by decide) rfl ?_
  refine zz_loc (L1 := [(0, .ref v0), (1, .int v1), (2, .int v2), (3, .int 0), (4, .int 1)]) [2, 3, 4, 1, 0] rfl ?_
  obtain ⟨q1, hq1, h⟩ := bindN h
  refine zLM_takeOut_5 hG C N hD hd 1000000 _ _ _ hq1 ?_
  · intro r2 eq1; subst eq1
    obtain rfl := Option.some.inj h
    exact E
