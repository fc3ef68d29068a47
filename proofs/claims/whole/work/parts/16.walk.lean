theorem ddM_sortOf_0 : decode cM_sortOf 0 = .ok (.iload_n 0, 1) := by decide +kernel
theorem ddM_sortOf_1 : decode cM_sortOf 1 = .ok (.lookupswitch 82 #[(40, 77), (41, 79), (102, 69), (103, 67), (107, 73), (109, 75), (120, 71)], 67) := by decide +kernel
theorem ddM_sortOf_68 : decode cM_sortOf 68 = .ok (.iconst 0, 1) := by decide +kernel
theorem ddM_sortOf_69 : decode cM_sortOf 69 = .ok (.ireturn, 1) := by decide +kernel
theorem ddM_sortOf_70 : decode cM_sortOf 70 = .ok (.iconst 1, 1) := by decide +kernel
theorem ddM_sortOf_71 : decode cM_sortOf 71 = .ok (.ireturn, 1) := by decide +kernel
theorem ddM_sortOf_72 : decode cM_sortOf 72 = .ok (.iconst 2, 1) := by decide +kernel
theorem ddM_sortOf_73 : decode cM_sortOf 73 = .ok (.ireturn, 1) := by decide +kernel
theorem ddM_sortOf_74 : decode cM_sortOf 74 = .ok (.iconst 3, 1) := by decide +kernel
theorem ddM_sortOf_75 : decode cM_sortOf 75 = .ok (.ireturn, 1) := by decide +kernel
theorem ddM_sortOf_76 : decode cM_sortOf 76 = .ok (.iconst 4, 1) := by decide +kernel
theorem ddM_sortOf_77 : decode cM_sortOf 77 = .ok (.ireturn, 1) := by decide +kernel
theorem ddM_sortOf_78 : decode cM_sortOf 78 = .ok (.iconst 5, 1) := by decide +kernel
theorem ddM_sortOf_79 : decode cM_sortOf 79 = .ok (.ireturn, 1) := by decide +kernel
theorem ddM_sortOf_80 : decode cM_sortOf 80 = .ok (.bipush 6, 2) := by decide +kernel
theorem ddM_sortOf_82 : decode cM_sortOf 82 = .ok (.ireturn, 1) := by decide +kernel
theorem ddM_sortOf_83 : decode cM_sortOf 83 = .ok (.iconst (-1), 1) := by decide +kernel
theorem ddM_sortOf_84 : decode cM_sortOf 84 = .ok (.ireturn, 1) := by decide +kernel
set_option maxHeartbeats 2000000 in
theorem xM_sortOf {G : GXM} {l : Launch} (hG : GokM G) (d : Nat) (hd : 0 ≤ d) {v0 : Int32} {M : Mem} {q : Int32 × Mem} (h : fM_sortOf v0 M = some q) : ExM G l d 0 0 yM_sortOf cM_sortOf 1 (some .int) [.int v0] M (some (.int q.1)) q.2 := by
  refine ex_of hG (by decide +kernel) (Nat.le_of_ble_eq_true rfl) ?_
  intro X hl C E N hD hn
  show ZM G X 0 [(0, .int v0)] [] M 0 0
  unfold fM_sortOf at h
  refine zz_iload_n C 0 ddM_sortOf_0 rfl rfl ?_
  by_cases hs1_0 : v0 = 40
  · replace h := iteT h hs1_0
    rw [hs1_0]
    refine zz_lookup (tgt := 78) C ddM_sortOf_1 (by decide) rfl rfl ?_
    refine zz_iconst (v := 5) C ddM_sortOf_78 (by decide) ?_
    obtain rfl := Option.some.inj h
    exact zz_iret C E ddM_sortOf_79
  replace h := iteF h hs1_0
  by_cases hs1_1 : v0 = 41
  · replace h := iteT h hs1_1
    rw [hs1_1]
    refine zz_lookup (tgt := 80) C ddM_sortOf_1 (by decide) rfl rfl ?_
    refine zz_bipush (v := 6) C ddM_sortOf_80 (by decide) ?_
    obtain rfl := Option.some.inj h
    exact zz_iret C E ddM_sortOf_82
  replace h := iteF h hs1_1
  by_cases hs1_2 : v0 = 102
  · replace h := iteT h hs1_2
    rw [hs1_2]
    refine zz_lookup (tgt := 70) C ddM_sortOf_1 (by decide) rfl rfl ?_
    refine zz_iconst (v := 1) C ddM_sortOf_70 (by decide) ?_
    obtain rfl := Option.some.inj h
    exact zz_iret C E ddM_sortOf_71
  replace h := iteF h hs1_2
  by_cases hs1_3 : v0 = 103
  · replace h := iteT h hs1_3
    rw [hs1_3]
    refine zz_lookup (tgt := 68) C ddM_sortOf_1 (by decide) rfl rfl ?_
    refine zz_iconst (v := 0) C ddM_sortOf_68 (by decide) ?_
    obtain rfl := Option.some.inj h
    exact zz_iret C E ddM_sortOf_69
  replace h := iteF h hs1_3
  by_cases hs1_4 : v0 = 107
  · replace h := iteT h hs1_4
    rw [hs1_4]
    refine zz_lookup (tgt := 74) C ddM_sortOf_1 (by decide) rfl rfl ?_
    refine zz_iconst (v := 3) C ddM_sortOf_74 (by decide) ?_
    obtain rfl := Option.some.inj h
    exact zz_iret C E ddM_sortOf_75
  replace h := iteF h hs1_4
  by_cases hs1_5 : v0 = 109
  · replace h := iteT h hs1_5
    rw [hs1_5]
    refine zz_lookup (tgt := 76) C ddM_sortOf_1 (by decide) rfl rfl ?_
    refine zz_iconst (v := 4) C ddM_sortOf_76 (by decide) ?_
    obtain rfl := Option.some.inj h
    exact zz_iret C E ddM_sortOf_77
  replace h := iteF h hs1_5
  by_cases hs1_6 : v0 = 120
  · replace h := iteT h hs1_6
    rw [hs1_6]
    refine zz_lookup (tgt := 72) C ddM_sortOf_1 (by decide) rfl rfl ?_
    refine zz_iconst (v := 2) C ddM_sortOf_72 (by decide) ?_
    obtain rfl := Option.some.inj h
    exact zz_iret C E ddM_sortOf_73
  replace h := iteF h hs1_6
  refine zz_lookup (tgt := 83) (off := 82) C ddM_sortOf_1 (by decide) ((lv_osw hs1_0 (by decide)).trans ((lv_osw hs1_1 (by decide)).trans ((lv_osw hs1_2 (by decide)).trans ((lv_osw hs1_3 (by decide)).trans ((lv_osw hs1_4 (by decide)).trans ((lv_osw hs1_5 (by decide)).trans ((lv_osw hs1_6 (by decide)).trans rfl))))))) rfl ?_
  refine zz_iconst (v := (-1)) C ddM_sortOf_83 (by decide) ?_
  obtain rfl := Option.some.inj h
  exact zz_iret C E ddM_sortOf_84
theorem ddM_readStep_0 : decode cM_readStep 0 = .ok (.aload_n 0, 1) := by decide +kernel
theorem ddM_readStep_1 : decode cM_readStep 1 = .ok (.invokevirtual 89, 3) := by decide +kernel
theorem ddM_readStep_4 : decode cM_readStep 4 = .ok (.invokestatic 127, 3) := by decide +kernel
theorem ddM_readStep_7 : decode cM_readStep 7 = .ok (.istore_n 2, 1) := by decide +kernel
theorem ddM_readStep_8 : decode cM_readStep 8 = .ok (.iload_n 2, 1) := by decide +kernel
theorem ddM_readStep_9 : decode cM_readStep 9 = .ok (.iconst (-1), 1) := by decide +kernel
theorem ddM_readStep_10 : decode cM_readStep 10 = .ok (.if_icmp .eq 30, 3) := by decide +kernel
theorem ddM_readStep_13 : decode cM_readStep 13 = .ok (.iload_n 2, 1) := by decide +kernel
theorem ddM_readStep_14 : decode cM_readStep 14 = .ok (.iconst 5, 1) := by decide +kernel
theorem ddM_readStep_15 : decode cM_readStep 15 = .ok (.if_icmp .ne 12, 3) := by decide +kernel
theorem ddM_readStep_18 : decode cM_readStep 18 = .ok (.aload_n 0, 1) := by decide +kernel
theorem ddM_readStep_19 : decode cM_readStep 19 = .ok (.getfield 131, 3) := by decide +kernel
theorem ddM_readStep_22 : decode cM_readStep 22 = .ok (.bipush 6, 2) := by decide +kernel
theorem ddM_readStep_24 : decode cM_readStep 24 = .ok (.if_icmp .eq 16, 3) := by decide +kernel
theorem ddM_readStep_27 : decode cM_readStep 27 = .ok (.iload_n 2, 1) := by decide +kernel
theorem ddM_readStep_28 : decode cM_readStep 28 = .ok (.bipush 6, 2) := by decide +kernel
theorem ddM_readStep_30 : decode cM_readStep 30 = .ok (.if_icmp .ne 15, 3) := by decide +kernel
theorem ddM_readStep_33 : decode cM_readStep 33 = .ok (.aload_n 0, 1) := by decide +kernel
theorem ddM_readStep_34 : decode cM_readStep 34 = .ok (.getfield 131, 3) := by decide +kernel
theorem ddM_readStep_37 : decode cM_readStep 37 = .ok (.ifCond .ne 8, 3) := by decide +kernel
theorem ddM_readStep_40 : decode cM_readStep 40 = .ok (.aload_n 0, 1) := by decide +kernel
theorem ddM_readStep_41 : decode cM_readStep 41 = .ok (.invokevirtual 96, 3) := by decide +kernel
theorem ddM_readStep_44 : decode cM_readStep 44 = .ok (.return_, 1) := by decide +kernel
theorem ddM_readStep_45 : decode cM_readStep 45 = .ok (.aload_n 0, 1) := by decide +kernel
theorem ddM_readStep_46 : decode cM_readStep 46 = .ok (.dup, 1) := by decide +kernel
theorem ddM_readStep_47 : decode cM_readStep 47 = .ok (.getfield 79, 3) := by decide +kernel
theorem ddM_readStep_50 : decode cM_readStep 50 = .ok (.iconst 1, 1) := by decide +kernel
theorem ddM_readStep_51 : decode cM_readStep 51 = .ok (.iadd, 1) := by decide +kernel
theorem ddM_readStep_52 : decode cM_readStep 52 = .ok (.putfield 79, 3) := by decide +kernel
theorem ddM_readStep_55 : decode cM_readStep 55 = .ok (.aload_n 0, 1) := by decide +kernel
theorem ddM_readStep_56 : decode cM_readStep 56 = .ok (.dup, 1) := by decide +kernel
theorem ddM_readStep_57 : decode cM_readStep 57 = .ok (.getfield 131, 3) := by decide +kernel
theorem ddM_readStep_60 : decode cM_readStep 60 = .ok (.iload_n 2, 1) := by decide +kernel
theorem ddM_readStep_61 : decode cM_readStep 61 = .ok (.iconst 5, 1) := by decide +kernel
theorem ddM_readStep_62 : decode cM_readStep 62 = .ok (.if_icmp .ne 7, 3) := by decide +kernel
theorem ddM_readStep_65 : decode cM_readStep 65 = .ok (.iconst 1, 1) := by decide +kernel
theorem ddM_readStep_66 : decode cM_readStep 66 = .ok (.goto 14, 3) := by decide +kernel
theorem ddM_readStep_69 : decode cM_readStep 69 = .ok (.iload_n 2, 1) := by decide +kernel
theorem ddM_readStep_70 : decode cM_readStep 70 = .ok (.bipush 6, 2) := by decide +kernel
theorem ddM_readStep_72 : decode cM_readStep 72 = .ok (.if_icmp .ne 7, 3) := by decide +kernel
theorem ddM_readStep_75 : decode cM_readStep 75 = .ok (.iconst (-1), 1) := by decide +kernel
theorem ddM_readStep_76 : decode cM_readStep 76 = .ok (.goto 4, 3) := by decide +kernel
theorem ddM_readStep_79 : decode cM_readStep 79 = .ok (.iconst 0, 1) := by decide +kernel
theorem ddM_readStep_80 : decode cM_readStep 80 = .ok (.iadd, 1) := by decide +kernel
theorem ddM_readStep_81 : decode cM_readStep 81 = .ok (.putfield 131, 3) := by decide +kernel
theorem ddM_readStep_84 : decode cM_readStep 84 = .ok (.aload_n 0, 1) := by decide +kernel
theorem ddM_readStep_85 : decode cM_readStep 85 = .ok (.getfield 25, 3) := by decide +kernel
theorem ddM_readStep_88 : decode cM_readStep 88 = .ok (.iload_n 1, 1) := by decide +kernel
theorem ddM_readStep_89 : decode cM_readStep 89 = .ok (.iload_n 2, 1) := by decide +kernel
theorem ddM_readStep_90 : decode cM_readStep 90 = .ok (.iastore, 1) := by decide +kernel
theorem ddM_readStep_91 : decode cM_readStep 91 = .ok (.aload_n 0, 1) := by decide +kernel
theorem ddM_readStep_92 : decode cM_readStep 92 = .ok (.getfield 25, 3) := by decide +kernel
theorem ddM_readStep_95 : decode cM_readStep 95 = .ok (.iload_n 1, 1) := by decide +kernel
theorem ddM_readStep_96 : decode cM_readStep 96 = .ok (.iconst 1, 1) := by decide +kernel
theorem ddM_readStep_97 : decode cM_readStep 97 = .ok (.iadd, 1) := by decide +kernel
theorem ddM_readStep_98 : decode cM_readStep 98 = .ok (.iconst (-1), 1) := by decide +kernel
theorem ddM_readStep_99 : decode cM_readStep 99 = .ok (.iastore, 1) := by decide +kernel
theorem ddM_readStep_100 : decode cM_readStep 100 = .ok (.aload_n 0, 1) := by decide +kernel
theorem ddM_readStep_101 : decode cM_readStep 101 = .ok (.getfield 25, 3) := by decide +kernel
theorem ddM_readStep_104 : decode cM_readStep 104 = .ok (.iload_n 1, 1) := by decide +kernel
theorem ddM_readStep_105 : decode cM_readStep 105 = .ok (.iconst 2, 1) := by decide +kernel
theorem ddM_readStep_106 : decode cM_readStep 106 = .ok (.iadd, 1) := by decide +kernel
theorem ddM_readStep_107 : decode cM_readStep 107 = .ok (.iconst (-1), 1) := by decide +kernel
theorem ddM_readStep_108 : decode cM_readStep 108 = .ok (.iastore, 1) := by decide +kernel
theorem ddM_readStep_109 : decode cM_readStep 109 = .ok (.iload_n 2, 1) := by decide +kernel
theorem ddM_readStep_110 : decode cM_readStep 110 = .ok (.iconst 5, 1) := by decide +kernel
theorem ddM_readStep_111 : decode cM_readStep 111 = .ok (.if_icmp .lt 4, 3) := by decide +kernel
theorem ddM_readStep_114 : decode cM_readStep 114 = .ok (.return_, 1) := by decide +kernel
theorem ddM_readStep_115 : decode cM_readStep 115 = .ok (.aload_n 0, 1) := by decide +kernel
theorem ddM_readStep_116 : decode cM_readStep 116 = .ok (.invokevirtual 89, 3) := by decide +kernel
theorem ddM_readStep_119 : decode cM_readStep 119 = .ok (.invokestatic 92, 3) := by decide +kernel
theorem ddM_readStep_122 : decode cM_readStep 122 = .ok (.ifCond .ne 8, 3) := by decide +kernel
theorem ddM_readStep_125 : decode cM_readStep 125 = .ok (.aload_n 0, 1) := by decide +kernel
theorem ddM_readStep_126 : decode cM_readStep 126 = .ok (.invokevirtual 96, 3) := by decide +kernel
theorem ddM_readStep_129 : decode cM_readStep 129 = .ok (.return_, 1) := by decide +kernel
theorem ddM_readStep_130 : decode cM_readStep 130 = .ok (.aload_n 0, 1) := by decide +kernel
theorem ddM_readStep_131 : decode cM_readStep 131 = .ok (.getfield 25, 3) := by decide +kernel
theorem ddM_readStep_134 : decode cM_readStep 134 = .ok (.iload_n 1, 1) := by decide +kernel
theorem ddM_readStep_135 : decode cM_readStep 135 = .ok (.iconst 1, 1) := by decide +kernel
theorem ddM_readStep_136 : decode cM_readStep 136 = .ok (.iadd, 1) := by decide +kernel
theorem ddM_readStep_137 : decode cM_readStep 137 = .ok (.aload_n 0, 1) := by decide +kernel
theorem ddM_readStep_138 : decode cM_readStep 138 = .ok (.invokevirtual 82, 3) := by decide +kernel
theorem ddM_readStep_141 : decode cM_readStep 141 = .ok (.bipush 48, 2) := by decide +kernel
theorem ddM_readStep_143 : decode cM_readStep 143 = .ok (.isub, 1) := by decide +kernel
theorem ddM_readStep_144 : decode cM_readStep 144 = .ok (.iastore, 1) := by decide +kernel
theorem ddM_readStep_145 : decode cM_readStep 145 = .ok (.aload_n 0, 1) := by decide +kernel
theorem ddM_readStep_146 : decode cM_readStep 146 = .ok (.dup, 1) := by decide +kernel
theorem ddM_readStep_147 : decode cM_readStep 147 = .ok (.getfield 79, 3) := by decide +kernel
theorem ddM_readStep_150 : decode cM_readStep 150 = .ok (.iconst 1, 1) := by decide +kernel
theorem ddM_readStep_151 : decode cM_readStep 151 = .ok (.iadd, 1) := by decide +kernel
theorem ddM_readStep_152 : decode cM_readStep 152 = .ok (.putfield 79, 3) := by decide +kernel
theorem ddM_readStep_155 : decode cM_readStep 155 = .ok (.iload_n 2, 1) := by decide +kernel
theorem ddM_readStep_156 : decode cM_readStep 156 = .ok (.iconst 1, 1) := by decide +kernel
theorem ddM_readStep_157 : decode cM_readStep 157 = .ok (.if_icmp .le 4, 3) := by decide +kernel
theorem ddM_readStep_160 : decode cM_readStep 160 = .ok (.return_, 1) := by decide +kernel
theorem ddM_readStep_161 : decode cM_readStep 161 = .ok (.aload_n 0, 1) := by decide +kernel
theorem ddM_readStep_162 : decode cM_readStep 162 = .ok (.invokevirtual 89, 3) := by decide +kernel
theorem ddM_readStep_165 : decode cM_readStep 165 = .ok (.bipush 58, 2) := by decide +kernel
theorem ddM_readStep_167 : decode cM_readStep 167 = .ok (.if_icmp .eq 8, 3) := by decide +kernel
theorem ddM_readStep_170 : decode cM_readStep 170 = .ok (.aload_n 0, 1) := by decide +kernel
theorem ddM_readStep_171 : decode cM_readStep 171 = .ok (.invokevirtual 96, 3) := by decide +kernel
theorem ddM_readStep_174 : decode cM_readStep 174 = .ok (.return_, 1) := by decide +kernel
theorem ddM_readStep_175 : decode cM_readStep 175 = .ok (.aload_n 0, 1) := by decide +kernel
theorem ddM_readStep_176 : decode cM_readStep 176 = .ok (.dup, 1) := by decide +kernel
theorem ddM_readStep_177 : decode cM_readStep 177 = .ok (.getfield 79, 3) := by decide +kernel
theorem ddM_readStep_180 : decode cM_readStep 180 = .ok (.iconst 1, 1) := by decide +kernel
theorem ddM_readStep_181 : decode cM_readStep 181 = .ok (.iadd, 1) := by decide +kernel
theorem ddM_readStep_182 : decode cM_readStep 182 = .ok (.putfield 79, 3) := by decide +kernel
theorem ddM_readStep_185 : decode cM_readStep 185 = .ok (.aload_n 0, 1) := by decide +kernel
theorem ddM_readStep_186 : decode cM_readStep 186 = .ok (.getfield 25, 3) := by decide +kernel
theorem ddM_readStep_189 : decode cM_readStep 189 = .ok (.iload_n 1, 1) := by decide +kernel
theorem ddM_readStep_190 : decode cM_readStep 190 = .ok (.iconst 2, 1) := by decide +kernel
theorem ddM_readStep_191 : decode cM_readStep 191 = .ok (.iadd, 1) := by decide +kernel
theorem ddM_readStep_192 : decode cM_readStep 192 = .ok (.aload_n 0, 1) := by decide +kernel
theorem ddM_readStep_193 : decode cM_readStep 193 = .ok (.iload_n 2, 1) := by decide +kernel
theorem ddM_readStep_194 : decode cM_readStep 194 = .ok (.ifCond .ne 7, 3) := by decide +kernel
theorem ddM_readStep_197 : decode cM_readStep 197 = .ok (.iconst 1, 1) := by decide +kernel
theorem ddM_readStep_198 : decode cM_readStep 198 = .ok (.goto 4, 3) := by decide +kernel
theorem ddM_readStep_201 : decode cM_readStep 201 = .ok (.iconst 0, 1) := by decide +kernel
theorem ddM_readStep_202 : decode cM_readStep 202 = .ok (.iload_n 2, 1) := by decide +kernel
theorem ddM_readStep_203 : decode cM_readStep 203 = .ok (.ifCond .ne 8, 3) := by decide +kernel
theorem ddM_readStep_206 : decode cM_readStep 206 = .ok (.bipush 40, 2) := by decide +kernel
theorem ddM_readStep_208 : decode cM_readStep 208 = .ok (.goto 5, 3) := by decide +kernel
theorem ddM_readStep_211 : decode cM_readStep 211 = .ok (.bipush 23, 2) := by decide +kernel
theorem ddM_readStep_213 : decode cM_readStep 213 = .ok (.invokevirtual 113, 3) := by decide +kernel
theorem ddM_readStep_216 : decode cM_readStep 216 = .ok (.iastore, 1) := by decide +kernel
theorem ddM_readStep_217 : decode cM_readStep 217 = .ok (.return_, 1) := by decide +kernel
set_option maxHeartbeats 2000000 in
theorem zBM_readStep_213 {G : GXM} {X : CxM} (hG : GokM G) (C : CoM G X cM_readStep "HomeFreedModel") (N : mLM X = 3) {d : Nat} (hD : dpM X = d) (hd : 3 ≤ d)  {q : Mem} (E : EnM G X none none q 0 0) {w0 : Nat} {w1 : Int32} {w2 : Nat} {w3 : Int32} {w4 : Int32} {M : Mem} (h : BM_readStep_213 w0 w1 w2 w3 w4 M = some q) : ZM G X 213 [] [.int w4, .int w3, .ref w2, .int w1, .ref w0] M 0 0 := by
  unfold BM_readStep_213 at h
  obtain ⟨h2, h⟩ := gdN h
  obtain ⟨q1, hq1, h⟩ := bindN h
  refine zz_callV0 (As := [.int w3, .int w4]) C ddM_readStep_213 wd_1324 my_M_number mv_M_number ⟨_, rfl, rfl⟩ (xM_number hG (d - 1) (by omega) hq1) (by omega) h2 rfl rfl (Nat.le_of_ble_eq_true rfl) ?_
  obtain ⟨h3, h⟩ := gdN h
  refine zz_iastore C ddM_readStep_216 h3 ?_
  obtain rfl := Option.some.inj h
  exact zz_vret C E ddM_readStep_217
set_option maxHeartbeats 2000000 in
theorem zBM_readStep_202 {G : GXM} {X : CxM} (hG : GokM G) (C : CoM G X cM_readStep "HomeFreedModel") (N : mLM X = 3) {d : Nat} (hD : dpM X = d) (hd : 3 ≤ d)  {q : Mem} (E : EnM G X none none q 0 0) {v2 : Int32} {w0 : Nat} {w1 : Int32} {w2 : Nat} {w3 : Int32} {M : Mem} (h : BM_readStep_202 v2 w0 w1 w2 w3 M = some q) : ZM G X 202 [(2, .int v2)] [.int w3, .ref w2, .int w1, .ref w0] M 0 0 := by
  unfold BM_readStep_202 at h
  refine zz_iload_n C 0 ddM_readStep_202 rfl rfl ?_
  refine zz_if_ne (tgt := 211) C ddM_readStep_203 rfl (fun hc => ?_) (fun hc => ?_)
  · replace h := iteF h hc
    refine zz_bipush (v := 23) C ddM_readStep_211 (by decide) ?_
    refine zz_loc (L1 := []) [] rfl ?_
    exact zBM_readStep_213 hG C N hD hd E h
  · replace h := iteT h hc
    refine zz_bipush (v := 40) C ddM_readStep_206 (by decide) ?_
    refine zz_goto (tgt := 213) C ddM_readStep_208 rfl ?_
    refine zz_loc (L1 := []) [] rfl ?_
    exact zBM_readStep_213 hG C N hD hd E h
set_option maxHeartbeats 2000000 in
theorem zBM_readStep_80 {G : GXM} {X : CxM} (hG : GokM G) (C : CoM G X cM_readStep "HomeFreedModel") (N : mLM X = 3) {d : Nat} (hD : dpM X = d) (hd : 3 ≤ d)  {q : Mem} (E : EnM G X none none q 0 0) {v0 : Nat} {v1 : Int32} {v2 : Int32} {w0 : Nat} {w1 : Int32} {w2 : Int32} {M : Mem} (h : BM_readStep_80 v0 v1 v2 w0 w1 w2 M = some q) : ZM G X 80 [(0, .ref v0), (1, .int v1), (2, .int v2)] [.int w2, .int w1, .ref w0] M 0 0 := by
  unfold BM_readStep_80 at h
  refine zz_iadd C ddM_readStep_80 ?_
  obtain ⟨h1, h⟩ := gdN h
  refine zz_puti C ddM_readStep_81 fl_M_131 rfl rfl rfl h1 ?_
  refine zz_aload_n C 0 ddM_readStep_84 rfl rfl ?_
  obtain ⟨h2, h⟩ := gdN h
  obtain ⟨h3, h⟩ := gdN h
  refine zz_getr C ddM_readStep_85 fl_M_25 rfl h2 (of_decide_eq_true h3) ?_
  refine zz_iload_n C 1 ddM_readStep_88 rfl rfl ?_
  refine zz_iload_n C 2 ddM_readStep_89 rfl rfl ?_
  obtain ⟨h4, h⟩ := gdN h
  refine zz_iastore C ddM_readStep_90 h4 ?_
  refine zz_aload_n C 0 ddM_readStep_91 rfl rfl ?_
  refine zz_getr C ddM_readStep_92 fl_M_25 rfl h2 (of_decide_eq_true h3) ?_
  refine zz_iload_n C 1 ddM_readStep_95 rfl rfl ?_
  refine zz_iconst (v := 1) C ddM_readStep_96 (by decide) ?_
  refine zz_iadd C ddM_readStep_97 ?_
  refine zz_iconst (v := (-1)) C ddM_readStep_98 (by decide) ?_
  obtain ⟨h5, h⟩ := gdN h
  refine zz_iastore C ddM_readStep_99 h5 ?_
  refine zz_aload_n C 0 ddM_readStep_100 rfl rfl ?_
  refine zz_getr C ddM_readStep_101 fl_M_25 rfl h2 (of_decide_eq_true h3) ?_
  refine zz_iload_n C 1 ddM_readStep_104 rfl rfl ?_
  refine zz_iconst (v := 2) C ddM_readStep_105 (by decide) ?_
  refine zz_iadd C ddM_readStep_106 ?_
  refine zz_iconst (v := (-1)) C ddM_readStep_107 (by decide) ?_
  obtain ⟨h6, h⟩ := gdN h
  refine zz_iastore C ddM_readStep_108 h6 ?_
  refine zz_iload_n C 2 ddM_readStep_109 rfl rfl ?_
  refine zz_iconst (v := 5) C ddM_readStep_110 (by decide) ?_
  refine zz_icmp_lt (tgt := 115) C ddM_readStep_111 rfl (fun hc => ?_) (fun hc => ?_)
  · replace h := iteT h hc
    refine zz_aload_n C 0 ddM_readStep_115 rfl rfl ?_
    obtain ⟨q7, hq7, h⟩ := bindN h
    refine zz_callV0 (As := []) C ddM_readStep_116 wd_1303 my_M_ahead mv_M_ahead ⟨_, rfl, rfl⟩ (xM_ahead hG (d - 1) (by omega) hq7) (by omega) h2 rfl rfl (Nat.le_of_ble_eq_true rfl) ?_
    obtain ⟨q8, hq8, h⟩ := bindN h
    refine zz_callS0 (As := [.int q7.1]) C ddM_readStep_119 wd_1328 my_M_isDigit mv_M_isDigit (xM_isDigit hG (d - 1) (by omega) hq8) (by omega) rfl rfl (Nat.le_of_ble_eq_true rfl) ?_
    refine zz_if_ne (tgt := 130) C ddM_readStep_122 rfl (fun hc => ?_) (fun hc => ?_)
    · replace h := iteF h hc
      refine zz_aload_n C 0 ddM_readStep_130 rfl rfl ?_
      obtain ⟨h9, h⟩ := gdN h
      obtain ⟨h10, h⟩ := gdN h
      refine zz_getr C ddM_readStep_131 fl_M_25 rfl h9 (of_decide_eq_true h10) ?_
      refine zz_iload_n C 1 ddM_readStep_134 rfl rfl ?_
      refine zz_iconst (v := 1) C ddM_readStep_135 (by decide) ?_
      refine zz_iadd C ddM_readStep_136 ?_
      refine zz_aload_n C 0 ddM_readStep_137 rfl rfl ?_
      obtain ⟨q11, hq11, h⟩ := bindN h
      refine zz_callV0 (As := []) C ddM_readStep_138 wd_1307 my_M_here mv_M_here ⟨_, rfl, rfl⟩ (xM_here hG (d - 1) (by omega) hq11) (by omega) h9 rfl rfl (Nat.le_of_ble_eq_true rfl) ?_
      refine zz_bipush (v := 48) C ddM_readStep_141 (by decide) ?_
      refine zz_isub C ddM_readStep_143 ?_
      obtain ⟨h12, h⟩ := gdN h
      refine zz_iastore C ddM_readStep_144 h12 ?_
      refine zz_aload_n C 0 ddM_readStep_145 rfl rfl ?_
      refine zz_dup C ddM_readStep_146 rfl ?_
      obtain ⟨h13, h⟩ := gdN h
      refine zz_geti C ddM_readStep_147 fl_M_79 rfl h13 ?_
      refine zz_iconst (v := 1) C ddM_readStep_150 (by decide) ?_
      refine zz_iadd C ddM_readStep_151 ?_
      refine zz_puti C ddM_readStep_152 fl_M_79 rfl rfl rfl h13 ?_
      refine zz_iload_n C 2 ddM_readStep_155 rfl rfl ?_
      refine zz_iconst (v := 1) C ddM_readStep_156 (by decide) ?_
      refine zz_icmp_le (tgt := 161) C ddM_readStep_157 rfl (fun hc => ?_) (fun hc => ?_)
      · replace h := iteT h hc
        refine zz_aload_n C 0 ddM_readStep_161 rfl rfl ?_
        obtain ⟨q14, hq14, h⟩ := bindN h
        refine zz_callV0 (As := []) C ddM_readStep_162 wd_1303 my_M_ahead mv_M_ahead ⟨_, rfl, rfl⟩ (xM_ahead hG (d - 1) (by omega) hq14) (by omega) h13 rfl rfl (Nat.le_of_ble_eq_true rfl) ?_
        refine zz_bipush (v := 58) C ddM_readStep_165 (by decide) ?_
        refine zz_icmp_eq (tgt := 175) C ddM_readStep_167 rfl (fun hc => ?_) (fun hc => ?_)
        · replace h := iteT h hc
          refine zz_aload_n C 0 ddM_readStep_175 rfl rfl ?_
          refine zz_dup C ddM_readStep_176 rfl ?_
          obtain ⟨h15, h⟩ := gdN h
          refine zz_geti C ddM_readStep_177 fl_M_79 rfl h15 ?_
          refine zz_iconst (v := 1) C ddM_readStep_180 (by decide) ?_
          refine zz_iadd C ddM_readStep_181 ?_
          refine zz_puti C ddM_readStep_182 fl_M_79 rfl rfl rfl h15 ?_
          refine zz_aload_n C 0 ddM_readStep_185 rfl rfl ?_
          obtain ⟨h16, h⟩ := gdN h
          refine zz_getr C ddM_readStep_186 fl_M_25 rfl h15 (of_decide_eq_true h16) ?_
          refine zz_iload_n C 1 ddM_readStep_189 rfl rfl ?_
          refine zz_iconst (v := 2) C ddM_readStep_190 (by decide) ?_
          refine zz_iadd C ddM_readStep_191 ?_
          refine zz_aload_n C 0 ddM_readStep_192 rfl rfl ?_
          refine zz_iload_n C 2 ddM_readStep_193 rfl rfl ?_
          refine zz_if_ne (tgt := 201) C ddM_readStep_194 rfl (fun hc => ?_) (fun hc => ?_)
          · replace h := iteF h hc
            refine zz_iconst (v := 0) C ddM_readStep_201 (by decide) ?_
            refine zz_loc (L1 := [(2, .int v2)]) [2] rfl ?_
            exact zBM_readStep_202 hG C N hD hd E h
          · replace h := iteT h hc
            refine zz_iconst (v := 1) C ddM_readStep_197 (by decide) ?_
            refine zz_goto (tgt := 202) C ddM_readStep_198 rfl ?_
            refine zz_loc (L1 := [(2, .int v2)]) [2] rfl ?_
            exact zBM_readStep_202 hG C N hD hd E h
        · replace h := iteF h hc
          refine zz_aload_n C 0 ddM_readStep_170 rfl rfl ?_
          obtain ⟨h18, h⟩ := gdN h
          obtain ⟨q17, hq17, h⟩ := bindN h
          refine zz_callV0 (As := []) C ddM_readStep_171 wd_1331 my_M_bad mv_M_bad ⟨_, rfl, rfl⟩ (xM_bad hG (d - 1) (by omega) hq17) (by omega) h18 rfl rfl (Nat.le_of_ble_eq_true rfl) ?_
          obtain rfl := Option.some.inj h
          exact zz_vret C E ddM_readStep_174
      · replace h := iteF h hc
        obtain rfl := Option.some.inj h
        exact zz_vret C E ddM_readStep_160
    · replace h := iteT h hc
      refine zz_aload_n C 0 ddM_readStep_125 rfl rfl ?_
      obtain ⟨h20, h⟩ := gdN h
      obtain ⟨q19, hq19, h⟩ := bindN h
      refine zz_callV0 (As := []) C ddM_readStep_126 wd_1331 my_M_bad mv_M_bad ⟨_, rfl, rfl⟩ (xM_bad hG (d - 1) (by omega) hq19) (by omega) h20 rfl rfl (Nat.le_of_ble_eq_true rfl) ?_
      obtain rfl := Option.some.inj h
      exact zz_vret C E ddM_readStep_129
  · replace h := iteF h hc
    obtain rfl := Option.some.inj h
    exact zz_vret C E ddM_readStep_114
set_option maxHeartbeats 2000000 in
theorem zBM_readStep_45 {G : GXM} {X : CxM} (hG : GokM G) (C : CoM G X cM_readStep "HomeFreedModel") (N : mLM X = 3) {d : Nat} (hD : dpM X = d) (hd : 3 ≤ d)  {q : Mem} (E : EnM G X none none q 0 0) {v0 : Nat} {v1 : Int32} {v2 : Int32} {M : Mem} (h : BM_readStep_45 v0 v1 v2 M = some q) : ZM G X 45 [(0, .ref v0), (1, .int v1), (2, .int v2)] [] M 0 0 := by
  unfold BM_readStep_45 at h
  refine zz_aload_n C 0 ddM_readStep_45 rfl rfl ?_
  refine zz_dup C ddM_readStep_46 rfl ?_
  obtain ⟨h1, h⟩ := gdN h
  refine zz_geti C ddM_readStep_47 fl_M_79 rfl h1 ?_
  refine zz_iconst (v := 1) C ddM_readStep_50 (by decide) ?_
  refine zz_iadd C ddM_readStep_51 ?_
  refine zz_puti C ddM_readStep_52 fl_M_79 rfl rfl rfl h1 ?_
  refine zz_aload_n C 0 ddM_readStep_55 rfl rfl ?_
  refine zz_dup C ddM_readStep_56 rfl ?_
  refine zz_geti C ddM_readStep_57 fl_M_131 rfl h1 ?_
  refine zz_iload_n C 2 ddM_readStep_60 rfl rfl ?_
  refine zz_iconst (v := 5) C ddM_readStep_61 (by decide) ?_
  refine zz_icmp_ne (tgt := 69) C ddM_readStep_62 rfl (fun hc => ?_) (fun hc => ?_)
  · replace h := iteF h hc
    refine zz_iload_n C 2 ddM_readStep_69 rfl rfl ?_
    refine zz_bipush (v := 6) C ddM_readStep_70 (by decide) ?_
    refine zz_icmp_ne (tgt := 79) C ddM_readStep_72 rfl (fun hc => ?_) (fun hc => ?_)
    · replace h := iteF h hc
      refine zz_iconst (v := 0) C ddM_readStep_79 (by decide) ?_
      exact zBM_readStep_80 hG C N hD hd E h
    · replace h := iteT h hc
      refine zz_iconst (v := (-1)) C ddM_readStep_75 (by decide) ?_
      refine zz_goto (tgt := 80) C ddM_readStep_76 rfl ?_
      exact zBM_readStep_80 hG C N hD hd E h
  · replace h := iteT h hc
    refine zz_iconst (v := 1) C ddM_readStep_65 (by decide) ?_
    refine zz_goto (tgt := 80) C ddM_readStep_66 rfl ?_
    exact zBM_readStep_80 hG C N hD hd E h
set_option maxHeartbeats 2000000 in
theorem zBM_readStep_40 {G : GXM} {X : CxM} (hG : GokM G) (C : CoM G X cM_readStep "HomeFreedModel") (N : mLM X = 3) {d : Nat} (hD : dpM X = d) (hd : 3 ≤ d)  {q : Mem} (E : EnM G X none none q 0 0) {v0 : Nat} {M : Mem} (h : BM_readStep_40 v0 M = some q) : ZM G X 40 [(0, .ref v0)] [] M 0 0 := by
  unfold BM_readStep_40 at h
  refine zz_aload_n C 0 ddM_readStep_40 rfl rfl ?_
  obtain ⟨h2, h⟩ := gdN h
  obtain ⟨q1, hq1, h⟩ := bindN h
  refine zz_callV0 (As := []) C ddM_readStep_41 wd_1331 my_M_bad mv_M_bad ⟨_, rfl, rfl⟩ (xM_bad hG (d - 1) (by omega) hq1) (by omega) h2 rfl rfl (Nat.le_of_ble_eq_true rfl) ?_
  obtain rfl := Option.some.inj h
  exact zz_vret C E ddM_readStep_44
set_option maxHeartbeats 2000000 in
theorem zBM_readStep_27 {G : GXM} {X : CxM} (hG : GokM G) (C : CoM G X cM_readStep "HomeFreedModel") (N : mLM X = 3) {d : Nat} (hD : dpM X = d) (hd : 3 ≤ d)  {q : Mem} (E : EnM G X none none q 0 0) {v0 : Nat} {v1 : Int32} {v2 : Int32} {M : Mem} (h : BM_readStep_27 v0 v1 v2 M = some q) : ZM G X 27 [(0, .ref v0), (1, .int v1), (2, .int v2)] [] M 0 0 := by
  unfold BM_readStep_27 at h
  refine zz_iload_n C 2 ddM_readStep_27 rfl rfl ?_
  refine zz_bipush (v := 6) C ddM_readStep_28 (by decide) ?_
  refine zz_icmp_ne (tgt := 45) C ddM_readStep_30 rfl (fun hc => ?_) (fun hc => ?_)
  · replace h := iteF h hc
    exact zBM_readStep_45 hG C N hD hd E h
  · replace h := iteT h hc
    refine zz_aload_n C 0 ddM_readStep_33 rfl rfl ?_
    obtain ⟨h1, h⟩ := gdN h
    refine zz_geti C ddM_readStep_34 fl_M_131 rfl h1 ?_
    refine zz_if_ne (tgt := 45) C ddM_readStep_37 rfl (fun hc => ?_) (fun hc => ?_)
    · replace h := iteF h hc
      exact zBM_readStep_45 hG C N hD hd E h
    · replace h := iteT h hc
      refine zz_loc (L1 := [(0, .ref v0)]) [0] rfl ?_
      exact zBM_readStep_40 hG C N hD hd E h
set_option maxHeartbeats 2000000 in
theorem xM_readStep {G : GXM} {l : Launch} (hG : GokM G) (d : Nat) (hd : 3 ≤ d) {v0 : Nat} {v1 : Int32} {M : Mem} {q : Mem} (h : fM_readStep v0 v1 M = some q) : ExM G l d 0 0 yM_readStep cM_readStep 3 none [.ref v0, .int v1] M none q := by
  refine ex_of hG (by decide +kernel) (Nat.le_of_ble_eq_true rfl) ?_
  intro X hl C E N hD hn
  show ZM G X 0 [(0, .ref v0), (1, .int v1)] [] M 0 0
  unfold fM_readStep at h
  refine zz_aload_n C 0 ddM_readStep_0 rfl rfl ?_
  obtain ⟨h2, h⟩ := gdN h
  obtain ⟨q1, hq1, h⟩ := bindN h
  refine zz_callV0 (As := []) C ddM_readStep_1 wd_1303 my_M_ahead mv_M_ahead ⟨_, rfl, rfl⟩ (xM_ahead hG (d - 1) (by omega) hq1) (by omega) h2 rfl rfl (Nat.le_of_ble_eq_true rfl) ?_
  obtain ⟨q3, hq3, h⟩ := bindN h
  refine zz_callS0 (As := [.int q1.1]) C ddM_readStep_4 wd_1347 my_M_sortOf mv_M_sortOf (xM_sortOf hG (d - 1) (by omega) hq3) (by omega) rfl rfl (Nat.le_of_ble_eq_true rfl) ?_
  refine zz_istore_n (L1 := [(2, .int q3.1), (0, .ref v0), (1, .int v1)]) C ddM_readStep_7 rfl N (by decide) rfl ?_
  refine zz_iload_n C 0 ddM_readStep_8 rfl rfl ?_
  refine zz_iconst (v := (-1)) C ddM_readStep_9 (by decide) ?_
  refine zz_icmp_eq (tgt := 40) C ddM_readStep_10 rfl (fun hc => ?_) (fun hc => ?_)
  · replace h := iteT h hc
    refine zz_loc (L1 := [(0, .ref v0)]) [1] rfl ?_
    exact zBM_readStep_40 hG C N hD hd E h
  · replace h := iteF h hc
    refine zz_iload_n C 0 ddM_readStep_13 rfl rfl ?_
    refine zz_iconst (v := 5) C ddM_readStep_14 (by decide) ?_
    refine zz_icmp_ne (tgt := 27) C ddM_readStep_15 rfl (fun hc => ?_) (fun hc => ?_)
    · replace h := iteF h hc
      refine zz_loc (L1 := [(0, .ref v0), (1, .int v1), (2, .int q3.1)]) [1, 2, 0] rfl ?_
      exact zBM_readStep_27 hG C N hD hd E h
    · replace h := iteT h hc
      refine zz_aload_n C 1 ddM_readStep_18 rfl rfl ?_
      obtain ⟨h4, h⟩ := gdN h
      refine zz_geti C ddM_readStep_19 fl_M_131 rfl h4 ?_
      refine zz_bipush (v := 6) C ddM_readStep_22 (by decide) ?_
      refine zz_icmp_eq (tgt := 40) C ddM_readStep_24 rfl (fun hc => ?_) (fun hc => ?_)
      · replace h := iteT h hc
        refine zz_loc (L1 := [(0, .ref v0)]) [1] rfl ?_
        exact zBM_readStep_40 hG C N hD hd E h
      · replace h := iteF h hc
        refine zz_loc (L1 := [(0, .ref v0), (1, .int v1), (2, .int q3.1)]) [1, 2, 0] rfl ?_
        exact zBM_readStep_27 hG C N hD hd E h
theorem ddM_readScript_0 : decode cM_readScript 0 = .ok (.aload_n 0, 1) := by decide +kernel
theorem ddM_readScript_1 : decode cM_readScript 1 = .ok (.iconst 0, 1) := by decide +kernel
theorem ddM_readScript_2 : decode cM_readScript 2 = .ok (.putfield 79, 3) := by decide +kernel
theorem ddM_readScript_5 : decode cM_readScript 5 = .ok (.aload_n 0, 1) := by decide +kernel
theorem ddM_readScript_6 : decode cM_readScript 6 = .ok (.iconst (-1), 1) := by decide +kernel
theorem ddM_readScript_7 : decode cM_readScript 7 = .ok (.putfield 86, 3) := by decide +kernel
theorem ddM_readScript_10 : decode cM_readScript 10 = .ok (.aload_n 0, 1) := by decide +kernel
theorem ddM_readScript_11 : decode cM_readScript 11 = .ok (.getfield 28, 3) := by decide +kernel
theorem ddM_readScript_14 : decode cM_readScript 14 = .ok (.iload_n 1, 1) := by decide +kernel
theorem ddM_readScript_15 : decode cM_readScript 15 = .ok (.iconst 0, 1) := by decide +kernel
theorem ddM_readScript_16 : decode cM_readScript 16 = .ok (.iastore, 1) := by decide +kernel
theorem ddM_readScript_17 : decode cM_readScript 17 = .ok (.aload_n 0, 1) := by decide +kernel
theorem ddM_readScript_18 : decode cM_readScript 18 = .ok (.iconst 0, 1) := by decide +kernel
theorem ddM_readScript_19 : decode cM_readScript 19 = .ok (.putfield 131, 3) := by decide +kernel
theorem ddM_readScript_22 : decode cM_readScript 22 = .ok (.iconst 1, 1) := by decide +kernel
theorem ddM_readScript_23 : decode cM_readScript 23 = .ok (.istore_n 2, 1) := by decide +kernel
theorem ddM_readScript_24 : decode cM_readScript 24 = .ok (.iload_n 2, 1) := by decide +kernel
theorem ddM_readScript_25 : decode cM_readScript 25 = .ok (.ifCond .eq 85, 3) := by decide +kernel
theorem ddM_readScript_28 : decode cM_readScript 28 = .ok (.aload_n 0, 1) := by decide +kernel
theorem ddM_readScript_29 : decode cM_readScript 29 = .ok (.iconst 3, 1) := by decide +kernel
theorem ddM_readScript_30 : decode cM_readScript 30 = .ok (.bipush 24, 2) := by decide +kernel
theorem ddM_readScript_32 : decode cM_readScript 32 = .ok (.iload_n 1, 1) := by decide +kernel
theorem ddM_readScript_33 : decode cM_readScript 33 = .ok (.imul, 1) := by decide +kernel
theorem ddM_readScript_34 : decode cM_readScript 34 = .ok (.aload_n 0, 1) := by decide +kernel
theorem ddM_readScript_35 : decode cM_readScript 35 = .ok (.getfield 28, 3) := by decide +kernel
theorem ddM_readScript_38 : decode cM_readScript 38 = .ok (.iload_n 1, 1) := by decide +kernel
theorem ddM_readScript_39 : decode cM_readScript 39 = .ok (.iaload, 1) := by decide +kernel
theorem ddM_readScript_40 : decode cM_readScript 40 = .ok (.iadd, 1) := by decide +kernel
theorem ddM_readScript_41 : decode cM_readScript 41 = .ok (.imul, 1) := by decide +kernel
theorem ddM_readScript_42 : decode cM_readScript 42 = .ok (.invokevirtual 134, 3) := by decide +kernel
theorem ddM_readScript_45 : decode cM_readScript 45 = .ok (.aload_n 0, 1) := by decide +kernel
theorem ddM_readScript_46 : decode cM_readScript 46 = .ok (.getfield 28, 3) := by decide +kernel
theorem ddM_readScript_49 : decode cM_readScript 49 = .ok (.iload_n 1, 1) := by decide +kernel
theorem ddM_readScript_50 : decode cM_readScript 50 = .ok (.dup2, 1) := by decide +kernel
theorem ddM_readScript_51 : decode cM_readScript 51 = .ok (.iaload, 1) := by decide +kernel
theorem ddM_readScript_52 : decode cM_readScript 52 = .ok (.iconst 1, 1) := by decide +kernel
theorem ddM_readScript_53 : decode cM_readScript 53 = .ok (.iadd, 1) := by decide +kernel
theorem ddM_readScript_54 : decode cM_readScript 54 = .ok (.iastore, 1) := by decide +kernel
theorem ddM_readScript_55 : decode cM_readScript 55 = .ok (.aload_n 0, 1) := by decide +kernel
theorem ddM_readScript_56 : decode cM_readScript 56 = .ok (.getfield 86, 3) := by decide +kernel
theorem ddM_readScript_59 : decode cM_readScript 59 = .ok (.iconst (-1), 1) := by decide +kernel
theorem ddM_readScript_60 : decode cM_readScript 60 = .ok (.if_icmp .ne 27, 3) := by decide +kernel
theorem ddM_readScript_63 : decode cM_readScript 63 = .ok (.aload_n 0, 1) := by decide +kernel
theorem ddM_readScript_64 : decode cM_readScript 64 = .ok (.invokevirtual 89, 3) := by decide +kernel
theorem ddM_readScript_67 : decode cM_readScript 67 = .ok (.bipush 59, 2) := by decide +kernel
theorem ddM_readScript_69 : decode cM_readScript 69 = .ok (.if_icmp .ne 18, 3) := by decide +kernel
theorem ddM_readScript_72 : decode cM_readScript 72 = .ok (.aload_n 0, 1) := by decide +kernel
theorem ddM_readScript_73 : decode cM_readScript 73 = .ok (.getfield 28, 3) := by decide +kernel
theorem ddM_readScript_76 : decode cM_readScript 76 = .ok (.iload_n 1, 1) := by decide +kernel
theorem ddM_readScript_77 : decode cM_readScript 77 = .ok (.iaload, 1) := by decide +kernel
theorem ddM_readScript_78 : decode cM_readScript 78 = .ok (.bipush 24, 2) := by decide +kernel
theorem ddM_readScript_80 : decode cM_readScript 80 = .ok (.if_icmp .ge 7, 3) := by decide +kernel
theorem ddM_readScript_83 : decode cM_readScript 83 = .ok (.iconst 1, 1) := by decide +kernel
theorem ddM_readScript_84 : decode cM_readScript 84 = .ok (.goto 4, 3) := by decide +kernel
theorem ddM_readScript_87 : decode cM_readScript 87 = .ok (.iconst 0, 1) := by decide +kernel
theorem ddM_readScript_88 : decode cM_readScript 88 = .ok (.istore_n 2, 1) := by decide +kernel
theorem ddM_readScript_89 : decode cM_readScript 89 = .ok (.aload_n 0, 1) := by decide +kernel
theorem ddM_readScript_90 : decode cM_readScript 90 = .ok (.dup, 1) := by decide +kernel
theorem ddM_readScript_91 : decode cM_readScript 91 = .ok (.getfield 79, 3) := by decide +kernel
theorem ddM_readScript_94 : decode cM_readScript 94 = .ok (.iload_n 2, 1) := by decide +kernel
theorem ddM_readScript_95 : decode cM_readScript 95 = .ok (.ifCond .eq 7, 3) := by decide +kernel
theorem ddM_readScript_98 : decode cM_readScript 98 = .ok (.iconst 1, 1) := by decide +kernel
theorem ddM_readScript_99 : decode cM_readScript 99 = .ok (.goto 4, 3) := by decide +kernel
theorem ddM_readScript_102 : decode cM_readScript 102 = .ok (.iconst 0, 1) := by decide +kernel
theorem ddM_readScript_103 : decode cM_readScript 103 = .ok (.iadd, 1) := by decide +kernel
theorem ddM_readScript_104 : decode cM_readScript 104 = .ok (.putfield 79, 3) := by decide +kernel
theorem ddM_readScript_107 : decode cM_readScript 107 = .ok (.goto (-83), 3) := by decide +kernel
theorem ddM_readScript_110 : decode cM_readScript 110 = .ok (.aload_n 0, 1) := by decide +kernel
theorem ddM_readScript_111 : decode cM_readScript 111 = .ok (.getfield 86, 3) := by decide +kernel
theorem ddM_readScript_114 : decode cM_readScript 114 = .ok (.iconst (-1), 1) := by decide +kernel
theorem ddM_readScript_115 : decode cM_readScript 115 = .ok (.if_icmp .ne 22, 3) := by decide +kernel
theorem ddM_readScript_118 : decode cM_readScript 118 = .ok (.aload_n 0, 1) := by decide +kernel
theorem ddM_readScript_119 : decode cM_readScript 119 = .ok (.invokevirtual 89, 3) := by decide +kernel
theorem ddM_readScript_122 : decode cM_readScript 122 = .ok (.iconst (-1), 1) := by decide +kernel
theorem ddM_readScript_123 : decode cM_readScript 123 = .ok (.if_icmp .ne 10, 3) := by decide +kernel
theorem ddM_readScript_126 : decode cM_readScript 126 = .ok (.aload_n 0, 1) := by decide +kernel
theorem ddM_readScript_127 : decode cM_readScript 127 = .ok (.getfield 131, 3) := by decide +kernel
theorem ddM_readScript_130 : decode cM_readScript 130 = .ok (.ifCond .le 7, 3) := by decide +kernel
theorem ddM_readScript_133 : decode cM_readScript 133 = .ok (.aload_n 0, 1) := by decide +kernel
theorem ddM_readScript_134 : decode cM_readScript 134 = .ok (.invokevirtual 96, 3) := by decide +kernel
theorem ddM_readScript_137 : decode cM_readScript 137 = .ok (.aload_n 0, 1) := by decide +kernel
theorem ddM_readScript_138 : decode cM_readScript 138 = .ok (.getfield 86, 3) := by decide +kernel
theorem ddM_readScript_141 : decode cM_readScript 141 = .ok (.ireturn, 1) := by decide +kernel
set_option maxHeartbeats 2000000 in
theorem zBM_readScript_137 {G : GXM} {X : CxM} (hG : GokM G) (C : CoM G X cM_readScript "HomeFreedModel") (N : mLM X = 3) {d : Nat} (hD : dpM X = d) (hd : 4 ≤ d)  {q : Int32 × Mem} (E : EnM G X (some .int) (some (.int q.1)) q.2 0 0) {v0 : Nat} {M : Mem} (h : BM_readScript_137 v0 M = some q) : ZM G X 137 [(0, .ref v0)] [] M 0 0 := by
  unfold BM_readScript_137 at h
  refine zz_aload_n C 0 ddM_readScript_137 rfl rfl ?_
  obtain ⟨h1, h⟩ := gdN h
  refine zz_geti C ddM_readScript_138 fl_M_86 rfl h1 ?_
  obtain rfl := Option.some.inj h
  exact zz_iret C E ddM_readScript_141
set_option maxHeartbeats 2000000 in
theorem zBM_readScript_133 {G : GXM} {X : CxM} (hG : GokM G) (C : CoM G X cM_readScript "HomeFreedModel") (N : mLM X = 3) {d : Nat} (hD : dpM X = d) (hd : 4 ≤ d)  {q : Int32 × Mem} (E : EnM G X (some .int) (some (.int q.1)) q.2 0 0) {v0 : Nat} {M : Mem} (h : BM_readScript_133 v0 M = some q) : ZM G X 133 [(0, .ref v0)] [] M 0 0 := by
  unfold BM_readScript_133 at h
  refine zz_aload_n C 0 ddM_readScript_133 rfl rfl ?_
  obtain ⟨h2, h⟩ := gdN h
  obtain ⟨q1, hq1, h⟩ := bindN h
  refine zz_callV0 (As := []) C ddM_readScript_134 wd_1331 my_M_bad mv_M_bad ⟨_, rfl, rfl⟩ (xM_bad hG (d - 1) (by omega) hq1) (by omega) h2 rfl rfl (Nat.le_of_ble_eq_true rfl) ?_
  exact zBM_readScript_137 hG C N hD hd E h
set_option maxHeartbeats 2000000 in
theorem zBM_readScript_103 {G : GXM} {X : CxM} (hG : GokM G) (C : CoM G X cM_readScript "HomeFreedModel") (N : mLM X = 3) {d : Nat} (hD : dpM X = d) (hd : 4 ≤ d) {v0 : Nat} {v1 : Int32} {K : Nat → Int32 → Int32 → Mem → Option ((Mem))} {q : (Mem)} (hK : ∀ (v2 : Int32) (M : Mem), K v0 v1 v2 M = some q → ZM G X 24 [(0, .ref v0), (1, .int v1), (2, .int v2)] [] M 0 0) (hx0 : ∀ y : Mem, q = y → ZM G X 110 [(0, .ref v0)] [] y 0 0) {v2 : Int32} {w0 : Nat} {w1 : Int32} {w2 : Int32} {M : Mem} (h : BM_readScript_103 K v0 v1 v2 w0 w1 w2 M = some q) : ZM G X 103 [(0, .ref v0), (1, .int v1), (2, .int v2)] [.int w2, .int w1, .ref w0] M 0 0 := by
  unfold BM_readScript_103 at h
  refine zz_iadd C ddM_readScript_103 ?_
  obtain ⟨h1, h⟩ := gdN h
  refine zz_puti C ddM_readScript_104 fl_M_79 rfl rfl rfl h1 ?_
  refine zz_goto (tgt := 24) C ddM_readScript_107 rfl ?_
  exact hK _ _ h
set_option maxHeartbeats 2000000 in
theorem zBM_readScript_88 {G : GXM} {X : CxM} (hG : GokM G) (C : CoM G X cM_readScript "HomeFreedModel") (N : mLM X = 3) {d : Nat} (hD : dpM X = d) (hd : 4 ≤ d) {v0 : Nat} {v1 : Int32} {K : Nat → Int32 → Int32 → Mem → Option ((Mem))} {q : (Mem)} (hK : ∀ (v2 : Int32) (M : Mem), K v0 v1 v2 M = some q → ZM G X 24 [(0, .ref v0), (1, .int v1), (2, .int v2)] [] M 0 0) (hx0 : ∀ y : Mem, q = y → ZM G X 110 [(0, .ref v0)] [] y 0 0) {w0 : Int32} {M : Mem} (h : BM_readScript_88 K v0 v1 w0 M = some q) : ZM G X 88 [(0, .ref v0), (1, .int v1)] [.int w0] M 0 0 := by
  unfold BM_readScript_88 at h
  refine zz_istore_n (L1 := [(2, .int w0), (0, .ref v0), (1, .int v1)]) C ddM_readScript_88 rfl N (by decide) rfl ?_
  refine zz_aload_n C 1 ddM_readScript_89 rfl rfl ?_
  refine zz_dup C ddM_readScript_90 rfl ?_
  obtain ⟨h1, h⟩ := gdN h
  refine zz_geti C ddM_readScript_91 fl_M_79 rfl h1 ?_
  refine zz_iload_n C 0 ddM_readScript_94 rfl rfl ?_
  refine zz_if_eq (tgt := 102) C ddM_readScript_95 rfl (fun hc => ?_) (fun hc => ?_)
  · replace h := iteT h hc
    refine zz_iconst (v := 0) C ddM_readScript_102 (by decide) ?_
    refine zz_loc (L1 := [(0, .ref v0), (1, .int v1), (2, .int w0)]) [1, 2, 0] rfl ?_
    exact zBM_readScript_103 hG C N hD hd hK hx0 h
  · replace h := iteF h hc
    refine zz_iconst (v := 1) C ddM_readScript_98 (by decide) ?_
    refine zz_goto (tgt := 103) C ddM_readScript_99 rfl ?_
    refine zz_loc (L1 := [(0, .ref v0), (1, .int v1), (2, .int w0)]) [1, 2, 0] rfl ?_
    exact zBM_readScript_103 hG C N hD hd hK hx0 h
set_option maxHeartbeats 2000000 in
theorem zBM_readScript_87 {G : GXM} {X : CxM} (hG : GokM G) (C : CoM G X cM_readScript "HomeFreedModel") (N : mLM X = 3) {d : Nat} (hD : dpM X = d) (hd : 4 ≤ d) {v0 : Nat} {v1 : Int32} {K : Nat → Int32 → Int32 → Mem → Option ((Mem))} {q : (Mem)} (hK : ∀ (v2 : Int32) (M : Mem), K v0 v1 v2 M = some q → ZM G X 24 [(0, .ref v0), (1, .int v1), (2, .int v2)] [] M 0 0) (hx0 : ∀ y : Mem, q = y → ZM G X 110 [(0, .ref v0)] [] y 0 0) {M : Mem} (h : BM_readScript_87 K v0 v1 M = some q) : ZM G X 87 [(0, .ref v0), (1, .int v1)] [] M 0 0 := by
  unfold BM_readScript_87 at h
  refine zz_iconst (v := 0) C ddM_readScript_87 (by decide) ?_
  exact zBM_readScript_88 hG C N hD hd hK hx0 h
set_option maxHeartbeats 2000000 in
theorem zBM_readScript_24 {G : GXM} {X : CxM} (hG : GokM G) (C : CoM G X cM_readScript "HomeFreedModel") (N : mLM X = 3) {d : Nat} (hD : dpM X = d) (hd : 4 ≤ d) {v0 : Nat} {v1 : Int32} {K : Nat → Int32 → Int32 → Mem → Option ((Mem))} {q : (Mem)} (hK : ∀ (v2 : Int32) (M : Mem), K v0 v1 v2 M = some q → ZM G X 24 [(0, .ref v0), (1, .int v1), (2, .int v2)] [] M 0 0) (hx0 : ∀ y : Mem, q = y → ZM G X 110 [(0, .ref v0)] [] y 0 0) {v2 : Int32} {M : Mem} (h : BM_readScript_24 K v0 v1 v2 M = some q) : ZM G X 24 [(0, .ref v0), (1, .int v1), (2, .int v2)] [] M 0 0 := by
  unfold BM_readScript_24 at h
  refine zz_iload_n C 2 ddM_readScript_24 rfl rfl ?_
  refine zz_if_eq (tgt := 110) C ddM_readScript_25 rfl (fun hc => ?_) (fun hc => ?_)
  · replace h := iteT h hc
    refine zz_loc (L1 := [(0, .ref v0)]) [0] rfl ?_
    exact hx0 _ (Option.some.inj h).symm
  · replace h := iteF h hc
    refine zz_aload_n C 0 ddM_readScript_28 rfl rfl ?_
    refine zz_iconst (v := 3) C ddM_readScript_29 (by decide) ?_
    refine zz_bipush (v := 24) C ddM_readScript_30 (by decide) ?_
    refine zz_iload_n C 1 ddM_readScript_32 rfl rfl ?_
    refine zz_imul C ddM_readScript_33 ?_
    refine zz_aload_n C 0 ddM_readScript_34 rfl rfl ?_
    obtain ⟨h1, h⟩ := gdN h
    obtain ⟨h2, h⟩ := gdN h
    refine zz_getr C ddM_readScript_35 fl_M_28 rfl h1 (of_decide_eq_true h2) ?_
    refine zz_iload_n C 1 ddM_readScript_38 rfl rfl ?_
    obtain ⟨h3, h⟩ := gdN h
    refine zz_iaload C ddM_readScript_39 h3 ?_
    refine zz_iadd C ddM_readScript_40 ?_
    refine zz_imul C ddM_readScript_41 ?_
    obtain ⟨q4, hq4, h⟩ := bindN h
    refine zz_callV0 (As := [.int (3 * ((24 * v1) + (giM M (grM M v0 12) (Int32.toNatClampNeg v1))))]) C ddM_readScript_42 wd_1343 my_M_readStep mv_M_readStep ⟨_, rfl, rfl⟩ (xM_readStep hG (d - 1) (by omega) hq4) (by omega) h1 rfl rfl (Nat.le_of_ble_eq_true rfl) ?_
    refine zz_aload_n C 0 ddM_readScript_45 rfl rfl ?_
    obtain ⟨h5, h⟩ := gdN h
    obtain ⟨h6, h⟩ := gdN h
    refine zz_getr C ddM_readScript_46 fl_M_28 rfl h5 (of_decide_eq_true h6) ?_
    refine zz_iload_n C 1 ddM_readScript_49 rfl rfl ?_
    refine zz_dup2 C ddM_readScript_50 rfl rfl ?_
    obtain ⟨h7, h⟩ := gdN h
    refine zz_iaload C ddM_readScript_51 h7 ?_
    refine zz_iconst (v := 1) C ddM_readScript_52 (by decide) ?_
    refine zz_iadd C ddM_readScript_53 ?_
    obtain ⟨h8, h⟩ := gdN h
    refine zz_iastore C ddM_readScript_54 h8 ?_
    refine zz_aload_n C 0 ddM_readScript_55 rfl rfl ?_
    refine zz_geti C ddM_readScript_56 fl_M_86 rfl h5 ?_
    refine zz_iconst (v := (-1)) C ddM_readScript_59 (by decide) ?_
    refine zz_icmp_ne (tgt := 87) C ddM_readScript_60 rfl (fun hc => ?_) (fun hc => ?_)
    · replace h := iteF h hc
      refine zz_loc (L1 := [(0, .ref v0), (1, .int v1)]) [0, 1] rfl ?_
      exact zBM_readScript_87 hG C N hD hd hK hx0 h
    · replace h := iteT h hc
      refine zz_aload_n C 0 ddM_readScript_63 rfl rfl ?_
      obtain ⟨q9, hq9, h⟩ := bindN h
      refine zz_callV0 (As := []) C ddM_readScript_64 wd_1303 my_M_ahead mv_M_ahead ⟨_, rfl, rfl⟩ (xM_ahead hG (d - 1) (by omega) hq9) (by omega) h5 rfl rfl (Nat.le_of_ble_eq_true rfl) ?_
      refine zz_bipush (v := 59) C ddM_readScript_67 (by decide) ?_
      refine zz_icmp_ne (tgt := 87) C ddM_readScript_69 rfl (fun hc => ?_) (fun hc => ?_)
      · replace h := iteF h hc
        refine zz_loc (L1 := [(0, .ref v0), (1, .int v1)]) [0, 1] rfl ?_
        exact zBM_readScript_87 hG C N hD hd hK hx0 h
      · replace h := iteT h hc
        refine zz_aload_n C 0 ddM_readScript_72 rfl rfl ?_
        obtain ⟨h10, h⟩ := gdN h
        obtain ⟨h11, h⟩ := gdN h
        refine zz_getr C ddM_readScript_73 fl_M_28 rfl h10 (of_decide_eq_true h11) ?_
        refine zz_iload_n C 1 ddM_readScript_76 rfl rfl ?_
        obtain ⟨h12, h⟩ := gdN h
        refine zz_iaload C ddM_readScript_77 h12 ?_
        refine zz_bipush (v := 24) C ddM_readScript_78 (by decide) ?_
        refine zz_icmp_ge (tgt := 87) C ddM_readScript_80 rfl (fun hc => ?_) (fun hc => ?_)
        · replace h := iteT h hc
          refine zz_loc (L1 := [(0, .ref v0), (1, .int v1)]) [0, 1] rfl ?_
          exact zBM_readScript_87 hG C N hD hd hK hx0 h
        · replace h := iteF h hc
          refine zz_iconst (v := 1) C ddM_readScript_83 (by decide) ?_
          refine zz_goto (tgt := 88) C ddM_readScript_84 rfl ?_
          refine zz_loc (L1 := [(0, .ref v0), (1, .int v1)]) [0, 1] rfl ?_
          exact zBM_readScript_88 hG C N hD hd hK hx0 h
set_option maxHeartbeats 2000000 in
theorem zLM_readScript_24 {G : GXM} {X : CxM} (hG : GokM G) (C : CoM G X cM_readScript "HomeFreedModel") (N : mLM X = 3) {d : Nat} (hD : dpM X = d) (hd : 4 ≤ d) {v0 : Nat} {v1 : Int32} {q : (Mem)} : ∀ (f : Nat) (v2 : Int32) (M : Mem), LM_readScript_24 f v0 v1 v2 M = some q → (hx0 : ∀ y : Mem, q = y → ZM G X 110 [(0, .ref v0)] [] y 0 0) → ZM G X 24 [(0, .ref v0), (1, .int v1), (2, .int v2)] [] M 0 0 := by
  intro f
  induction f with
  | zero => intro v2 M h; cases h
  | succ f ih =>
    intro v2 M h hx0
    exact zBM_readScript_24 hG C N hD hd (K := LM_readScript_24 f) (q := q) (fun v2 M h => ih v2 M h hx0) hx0 h
set_option maxHeartbeats 2000000 in
theorem xM_readScript {G : GXM} {l : Launch} (hG : GokM G) (d : Nat) (hd : 4 ≤ d) {v0 : Nat} {v1 : Int32} {M : Mem} {q : Int32 × Mem} (h : fM_readScript v0 v1 M = some q) : ExM G l d 0 0 yM_readScript cM_readScript 3 (some .int) [.ref v0, .int v1] M (some (.int q.1)) q.2 := by
  refine ex_of hG (by decide +kernel) (Nat.le_of_ble_eq_true rfl) ?_
  intro X hl C E N hD hn
  show ZM G X 0 [(0, .ref v0), (1, .int v1)] [] M 0 0
  unfold fM_readScript at h
  refine zz_aload_n C 0 ddM_readScript_0 rfl rfl ?_
  refine zz_iconst (v := 0) C ddM_readScript_1 (by decide) ?_
  obtain ⟨h1, h⟩ := gdN h
  refine zz_puti C ddM_readScript_2 fl_M_79 rfl rfl rfl h1 ?_
  refine zz_aload_n C 0 ddM_readScript_5 rfl rfl ?_
  refine zz_iconst (v := (-1)) C ddM_readScript_6 (by decide) ?_
  refine zz_puti C ddM_readScript_7 fl_M_86 rfl rfl rfl h1 ?_
  refine zz_aload_n C 0 ddM_readScript_10 rfl rfl ?_
  obtain ⟨h2, h⟩ := gdN h
  refine zz_getr C ddM_readScript_11 fl_M_28 rfl h1 (of_decide_eq_true h2) ?_
  refine zz_iload_n C 1 ddM_readScript_14 rfl rfl ?_
  refine zz_iconst (v := 0) C ddM_readScript_15 (by decide) ?_
  obtain ⟨h3, h⟩ := gdN h
  refine zz_iastore C ddM_readScript_16 h3 ?_
  refine zz_aload_n C 0 ddM_readScript_17 rfl rfl ?_
  refine zz_iconst (v := 0) C ddM_readScript_18 (by decide) ?_
  refine zz_puti C ddM_readScript_19 fl_M_131 rfl rfl rfl h1 ?_
  refine zz_iconst (v := 1) C ddM_readScript_22 (by decide) ?_
  refine zz_istore_n (L1 := [(2, .int 1), (0, .ref v0), (1, .int v1)]) C ddM_readScript_23 rfl N (by decide) rfl ?_
  refine zz_loc (L1 := [(0, .ref v0), (1, .int v1), (2, .int 1)]) [1, 2, 0] rfl ?_
  obtain ⟨q4, hq4, h⟩ := bindN h
  refine zLM_readScript_24 hG C N hD hd 1000000 _ _ hq4 ?_
  · intro y5 eq4; replace eq4 := eq4.symm; subst eq4
    refine zz_aload_n C 0 ddM_readScript_110 rfl rfl ?_
    obtain ⟨h6, h⟩ := gdN h
    refine zz_geti C ddM_readScript_111 fl_M_86 rfl h6 ?_
    refine zz_iconst (v := (-1)) C ddM_readScript_114 (by decide) ?_
    refine zz_icmp_ne (tgt := 137) C ddM_readScript_115 rfl (fun hc => ?_) (fun hc => ?_)
    · replace h := iteF h hc
      exact zBM_readScript_137 hG C N hD hd E h
    · replace h := iteT h hc
      refine zz_aload_n C 0 ddM_readScript_118 rfl rfl ?_
      obtain ⟨q7, hq7, h⟩ := bindN h
      refine zz_callV0 (As := []) C ddM_readScript_119 wd_1303 my_M_ahead mv_M_ahead ⟨_, rfl, rfl⟩ (xM_ahead hG (d - 1) (by omega) hq7) (by omega) h6 rfl rfl (Nat.le_of_ble_eq_true rfl) ?_
      refine zz_iconst (v := (-1)) C ddM_readScript_122 (by decide) ?_
      refine zz_icmp_ne (tgt := 133) C ddM_readScript_123 rfl (fun hc => ?_) (fun hc => ?_)
      · replace h := iteF h hc
        exact zBM_readScript_133 hG C N hD hd E h
      · replace h := iteT h hc
        refine zz_aload_n C 0 ddM_readScript_126 rfl rfl ?_
        obtain ⟨h8, h⟩ := gdN h
        refine zz_geti C ddM_readScript_127 fl_M_131 rfl h8 ?_
        refine zz_if_le (tgt := 137) C ddM_readScript_130 rfl (fun hc => ?_) (fun hc => ?_)
        · replace h := iteT h hc
          exact zBM_readScript_137 hG C N hD hd E h
        · replace h := iteF h hc
          exact zBM_readScript_133 hG C N hD hd E h
theorem ddM_fault_0 : decode cM_fault 0 = .ok (.iload_n 1, 1) := by decide +kernel
theorem ddM_fault_1 : decode cM_fault 1 = .ok (.ifCond .ne 10, 3) := by decide +kernel
theorem ddM_fault_4 : decode cM_fault 4 = .ok (.aload_n 0, 1) := by decide +kernel
theorem ddM_fault_5 : decode cM_fault 5 = .ok (.invokevirtual 138, 3) := by decide +kernel
theorem ddM_fault_8 : decode cM_fault 8 = .ok (.goto 18, 3) := by decide +kernel
theorem ddM_fault_11 : decode cM_fault 11 = .ok (.iload_n 1, 1) := by decide +kernel
theorem ddM_fault_12 : decode cM_fault 12 = .ok (.iconst 1, 1) := by decide +kernel
theorem ddM_fault_13 : decode cM_fault 13 = .ok (.if_icmp .ne 11, 3) := by decide +kernel
theorem ddM_fault_16 : decode cM_fault 16 = .ok (.aload_n 0, 1) := by decide +kernel
theorem ddM_fault_17 : decode cM_fault 17 = .ok (.iconst 4, 1) := by decide +kernel
theorem ddM_fault_18 : decode cM_fault 18 = .ok (.invokevirtual 141, 3) := by decide +kernel
theorem ddM_fault_21 : decode cM_fault 21 = .ok (.goto 5, 3) := by decide +kernel
theorem ddM_fault_24 : decode cM_fault 24 = .ok (.bipush (-2), 2) := by decide +kernel
theorem ddM_fault_26 : decode cM_fault 26 = .ok (.ireturn, 1) := by decide +kernel
set_option maxHeartbeats 2000000 in
theorem zBM_fault_26 {G : GXM} {X : CxM} (hG : GokM G) (C : CoM G X cM_fault "HomeFreedModel") (N : mLM X = 2) {d : Nat} (hD : dpM X = d) (hd : 5 ≤ d)  {q : Int32 × Mem} (E : EnM G X (some .int) (some (.int q.1)) q.2 0 0) {w0 : Int32} {M : Mem} (h : BM_fault_26 w0 M = some q) : ZM G X 26 [] [.int w0] M 0 0 := by
  unfold BM_fault_26 at h
  obtain rfl := Option.some.inj h
  exact zz_iret C E ddM_fault_26
set_option maxHeartbeats 2000000 in
theorem xM_fault {G : GXM} {l : Launch} (hG : GokM G) (d : Nat) (hd : 5 ≤ d) {v0 : Nat} {v1 : Int32} {M : Mem} {q : Int32 × Mem} (h : fM_fault v0 v1 M = some q) : ExM G l d 0 0 yM_fault cM_fault 2 (some .int) [.ref v0, .int v1] M (some (.int q.1)) q.2 := by
  refine ex_of hG (by decide +kernel) (Nat.le_of_ble_eq_true rfl) ?_
  intro X hl C E N hD hn
  show ZM G X 0 [(0, .ref v0), (1, .int v1)] [] M 0 0
  unfold fM_fault at h
  refine zz_iload_n C 1 ddM_fault_0 rfl rfl ?_
  refine zz_if_ne (tgt := 11) C ddM_fault_1 rfl (fun hc => ?_) (fun hc => ?_)
  · replace h := iteF h hc
    refine zz_iload_n C 1 ddM_fault_11 rfl rfl ?_
    refine zz_iconst (v := 1) C ddM_fault_12 (by decide) ?_
    refine zz_icmp_ne (tgt := 24) C ddM_fault_13 rfl (fun hc => ?_) (fun hc => ?_)
    · replace h := iteF h hc
      refine zz_bipush (v := (-2)) C ddM_fault_24 (by decide) ?_
      refine zz_loc (L1 := []) [] rfl ?_
      exact zBM_fault_26 hG C N hD hd E h
    · replace h := iteT h hc
      refine zz_aload_n C 0 ddM_fault_16 rfl rfl ?_
      refine zz_iconst (v := 4) C ddM_fault_17 (by decide) ?_
      obtain ⟨h2, h⟩ := gdN h
      obtain ⟨q1, hq1, h⟩ := bindN h
      refine zz_callV0 (As := [.int 4]) C ddM_fault_18 wd_1339 my_M_readScript mv_M_readScript ⟨_, rfl, rfl⟩ (xM_readScript hG (d - 1) (by omega) hq1) (by omega) h2 rfl rfl (Nat.le_of_ble_eq_true rfl) ?_
      refine zz_goto (tgt := 26) C ddM_fault_21 rfl ?_
      refine zz_loc (L1 := []) [] rfl ?_
      exact zBM_fault_26 hG C N hD hd E h
  · replace h := iteT h hc
    refine zz_aload_n C 0 ddM_fault_4 rfl rfl ?_
    obtain ⟨h4, h⟩ := gdN h
    obtain ⟨q3, hq3, h⟩ := bindN h
    refine zz_callV0 (As := []) C ddM_fault_5 wd_1296 my_M_readArena mv_M_readArena ⟨_, rfl, rfl⟩ (xM_readArena hG (d - 1) (by omega) hq3) (by omega) h4 rfl rfl (Nat.le_of_ble_eq_true rfl) ?_
    refine zz_goto (tgt := 26) C ddM_fault_8 rfl ?_
    refine zz_loc (L1 := []) [] rfl ?_
    exact zBM_fault_26 hG C N hD hd E h
theorem ddM_takeArena_0 : decode cM_takeArena 0 = .ok (.aload_n 0, 1) := by decide +kernel
theorem ddM_takeArena_1 : decode cM_takeArena 1 = .ok (.aload_n 0, 1) := by decide +kernel
theorem ddM_takeArena_2 : decode cM_takeArena 2 = .ok (.getfield 116, 3) := by decide +kernel
theorem ddM_takeArena_5 : decode cM_takeArena 5 = .ok (.putfield 144, 3) := by decide +kernel
theorem ddM_takeArena_8 : decode cM_takeArena 8 = .ok (.iconst 0, 1) := by decide +kernel
theorem ddM_takeArena_9 : decode cM_takeArena 9 = .ok (.istore_n 1, 1) := by decide +kernel
theorem ddM_takeArena_10 : decode cM_takeArena 10 = .ok (.iload_n 1, 1) := by decide +kernel
theorem ddM_takeArena_11 : decode cM_takeArena 11 = .ok (.iconst 5, 1) := by decide +kernel
theorem ddM_takeArena_12 : decode cM_takeArena 12 = .ok (.if_icmp .ge 21, 3) := by decide +kernel
theorem ddM_takeArena_15 : decode cM_takeArena 15 = .ok (.aload_n 0, 1) := by decide +kernel
theorem ddM_takeArena_16 : decode cM_takeArena 16 = .ok (.getfield 19, 3) := by decide +kernel
theorem ddM_takeArena_19 : decode cM_takeArena 19 = .ok (.iload_n 1, 1) := by decide +kernel
theorem ddM_takeArena_20 : decode cM_takeArena 20 = .ok (.aload_n 0, 1) := by decide +kernel
theorem ddM_takeArena_21 : decode cM_takeArena 21 = .ok (.getfield 13, 3) := by decide +kernel
theorem ddM_takeArena_24 : decode cM_takeArena 24 = .ok (.iload_n 1, 1) := by decide +kernel
theorem ddM_takeArena_25 : decode cM_takeArena 25 = .ok (.iaload, 1) := by decide +kernel
theorem ddM_takeArena_26 : decode cM_takeArena 26 = .ok (.iastore, 1) := by decide +kernel
theorem ddM_takeArena_27 : decode cM_takeArena 27 = .ok (.iinc 1 1, 3) := by decide +kernel
theorem ddM_takeArena_30 : decode cM_takeArena 30 = .ok (.goto (-20), 3) := by decide +kernel
theorem ddM_takeArena_33 : decode cM_takeArena 33 = .ok (.iconst 0, 1) := by decide +kernel
theorem ddM_takeArena_34 : decode cM_takeArena 34 = .ok (.istore_n 1, 1) := by decide +kernel
theorem ddM_takeArena_35 : decode cM_takeArena 35 = .ok (.iload_n 1, 1) := by decide +kernel
theorem ddM_takeArena_36 : decode cM_takeArena 36 = .ok (.bipush 6, 2) := by decide +kernel
theorem ddM_takeArena_38 : decode cM_takeArena 38 = .ok (.if_icmp .ge 21, 3) := by decide +kernel
theorem ddM_takeArena_41 : decode cM_takeArena 41 = .ok (.aload_n 0, 1) := by decide +kernel
theorem ddM_takeArena_42 : decode cM_takeArena 42 = .ok (.getfield 22, 3) := by decide +kernel
theorem ddM_takeArena_45 : decode cM_takeArena 45 = .ok (.iload_n 1, 1) := by decide +kernel
theorem ddM_takeArena_46 : decode cM_takeArena 46 = .ok (.aload_n 0, 1) := by decide +kernel
theorem ddM_takeArena_47 : decode cM_takeArena 47 = .ok (.getfield 16, 3) := by decide +kernel
theorem ddM_takeArena_50 : decode cM_takeArena 50 = .ok (.iload_n 1, 1) := by decide +kernel
theorem ddM_takeArena_51 : decode cM_takeArena 51 = .ok (.iaload, 1) := by decide +kernel
theorem ddM_takeArena_52 : decode cM_takeArena 52 = .ok (.iastore, 1) := by decide +kernel
theorem ddM_takeArena_53 : decode cM_takeArena 53 = .ok (.iinc 1 1, 3) := by decide +kernel
theorem ddM_takeArena_56 : decode cM_takeArena 56 = .ok (.goto (-21), 3) := by decide +kernel
theorem ddM_takeArena_59 : decode cM_takeArena 59 = .ok (.iconst 0, 1) := by decide +kernel
theorem ddM_takeArena_60 : decode cM_takeArena 60 = .ok (.istore_n 1, 1) := by decide +kernel
theorem ddM_takeArena_61 : decode cM_takeArena 61 = .ok (.iload_n 1, 1) := by decide +kernel
theorem ddM_takeArena_62 : decode cM_takeArena 62 = .ok (.sipush 3893, 3) := by decide +kernel
theorem ddM_takeArena_65 : decode cM_takeArena 65 = .ok (.if_icmp .ge 16, 3) := by decide +kernel
theorem ddM_takeArena_68 : decode cM_takeArena 68 = .ok (.aload_n 0, 1) := by decide +kernel
theorem ddM_takeArena_69 : decode cM_takeArena 69 = .ok (.getfield 31, 3) := by decide +kernel
theorem ddM_takeArena_72 : decode cM_takeArena 72 = .ok (.iload_n 1, 1) := by decide +kernel
theorem ddM_takeArena_73 : decode cM_takeArena 73 = .ok (.iconst 0, 1) := by decide +kernel
theorem ddM_takeArena_74 : decode cM_takeArena 74 = .ok (.iastore, 1) := by decide +kernel
theorem ddM_takeArena_75 : decode cM_takeArena 75 = .ok (.iinc 1 1, 3) := by decide +kernel
theorem ddM_takeArena_78 : decode cM_takeArena 78 = .ok (.goto (-17), 3) := by decide +kernel
theorem ddM_takeArena_81 : decode cM_takeArena 81 = .ok (.iconst 0, 1) := by decide +kernel
theorem ddM_takeArena_82 : decode cM_takeArena 82 = .ok (.istore_n 1, 1) := by decide +kernel
theorem ddM_takeArena_83 : decode cM_takeArena 83 = .ok (.iload_n 1, 1) := by decide +kernel
theorem ddM_takeArena_84 : decode cM_takeArena 84 = .ok (.aload_n 0, 1) := by decide +kernel
theorem ddM_takeArena_85 : decode cM_takeArena 85 = .ok (.getfield 19, 3) := by decide +kernel
theorem ddM_takeArena_88 : decode cM_takeArena 88 = .ok (.iconst 0, 1) := by decide +kernel
theorem ddM_takeArena_89 : decode cM_takeArena 89 = .ok (.iaload, 1) := by decide +kernel
theorem ddM_takeArena_90 : decode cM_takeArena 90 = .ok (.if_icmp .ge 20, 3) := by decide +kernel
theorem ddM_takeArena_93 : decode cM_takeArena 93 = .ok (.aload_n 0, 1) := by decide +kernel
theorem ddM_takeArena_94 : decode cM_takeArena 94 = .ok (.getfield 31, 3) := by decide +kernel
theorem ddM_takeArena_97 : decode cM_takeArena 97 = .ok (.sipush 3704, 3) := by decide +kernel
theorem ddM_takeArena_100 : decode cM_takeArena 100 = .ok (.iload_n 1, 1) := by decide +kernel
theorem ddM_takeArena_101 : decode cM_takeArena 101 = .ok (.iadd, 1) := by decide +kernel
theorem ddM_takeArena_102 : decode cM_takeArena 102 = .ok (.iconst 1, 1) := by decide +kernel
theorem ddM_takeArena_103 : decode cM_takeArena 103 = .ok (.iastore, 1) := by decide +kernel
theorem ddM_takeArena_104 : decode cM_takeArena 104 = .ok (.iinc 1 1, 3) := by decide +kernel
theorem ddM_takeArena_107 : decode cM_takeArena 107 = .ok (.goto (-24), 3) := by decide +kernel
theorem ddM_takeArena_110 : decode cM_takeArena 110 = .ok (.aload_n 0, 1) := by decide +kernel
theorem ddM_takeArena_111 : decode cM_takeArena 111 = .ok (.iconst 0, 1) := by decide +kernel
theorem ddM_takeArena_112 : decode cM_takeArena 112 = .ok (.putfield 147, 3) := by decide +kernel
theorem ddM_takeArena_115 : decode cM_takeArena 115 = .ok (.aload_n 0, 1) := by decide +kernel
theorem ddM_takeArena_116 : decode cM_takeArena 116 = .ok (.iconst 0, 1) := by decide +kernel
theorem ddM_takeArena_117 : decode cM_takeArena 117 = .ok (.putfield 150, 3) := by decide +kernel
theorem ddM_takeArena_120 : decode cM_takeArena 120 = .ok (.aload_n 0, 1) := by decide +kernel
theorem ddM_takeArena_121 : decode cM_takeArena 121 = .ok (.getfield 144, 3) := by decide +kernel
theorem ddM_takeArena_124 : decode cM_takeArena 124 = .ok (.ireturn, 1) := by decide +kernel
set_option maxHeartbeats 2000000 in
theorem zBM_takeArena_83 {G : GXM} {X : CxM} (hG : GokM G) (C : CoM G X cM_takeArena "HomeFreedModel") (N : mLM X = 2) {d : Nat} (hD : dpM X = d) (hd : 0 ≤ d) {v0 : Nat} {K : Nat → Int32 → Mem → Option ((Int32 × Mem))} {q : (Int32 × Mem)} (hK : ∀ (v1 : Int32) (M : Mem), K v0 v1 M = some q → ZM G X 83 [(0, .ref v0), (1, .int v1)] [] M 0 0) (hr : ∀ r : Int32 × Mem, q =  r → EnM G X (some .int) (some (.int r.1)) r.2 0 0) {v1 : Int32} {M : Mem} (h : BM_takeArena_83 K v0 v1 M = some q) : ZM G X 83 [(0, .ref v0), (1, .int v1)] [] M 0 0 := by
  unfold BM_takeArena_83 at h
  refine zz_iload_n C 1 ddM_takeArena_83 rfl rfl ?_
  refine zz_aload_n C 0 ddM_takeArena_84 rfl rfl ?_
  obtain ⟨h1, h⟩ := gdN h
  obtain ⟨h2, h⟩ := gdN h
  refine zz_getr C ddM_takeArena_85 fl_M_19 rfl h1 (of_decide_eq_true h2) ?_
  refine zz_iconst (v := 0) C ddM_takeArena_88 (by decide) ?_
  obtain ⟨h3, h⟩ := gdN h
  refine zz_iaload C ddM_takeArena_89 h3 ?_
  refine zz_icmp_ge (tgt := 110) C ddM_takeArena_90 rfl (fun hc => ?_) (fun hc => ?_)
  · replace h := iteT h hc
    refine zz_aload_n C 0 ddM_takeArena_110 rfl rfl ?_
    refine zz_iconst (v := 0) C ddM_takeArena_111 (by decide) ?_
    refine zz_puti C ddM_takeArena_112 fl_M_147 rfl rfl rfl h1 ?_
    refine zz_aload_n C 0 ddM_takeArena_115 rfl rfl ?_
    refine zz_iconst (v := 0) C ddM_takeArena_116 (by decide) ?_
    refine zz_puti C ddM_takeArena_117 fl_M_150 rfl rfl rfl h1 ?_
    refine zz_aload_n C 0 ddM_takeArena_120 rfl rfl ?_
    refine zz_geti C ddM_takeArena_121 fl_M_144 rfl h1 ?_
    exact zz_iret C (hr _ (Option.some.inj h).symm) ddM_takeArena_124
  · replace h := iteF h hc
    refine zz_aload_n C 0 ddM_takeArena_93 rfl rfl ?_
    obtain ⟨h4, h⟩ := gdN h
    refine zz_getr C ddM_takeArena_94 fl_M_31 rfl h1 (of_decide_eq_true h4) ?_
    refine zz_sipush (v := 3704) C ddM_takeArena_97 (by decide) ?_
    refine zz_iload_n C 1 ddM_takeArena_100 rfl rfl ?_
    refine zz_iadd C ddM_takeArena_101 ?_
    refine zz_iconst (v := 1) C ddM_takeArena_102 (by decide) ?_
    obtain ⟨h5, h⟩ := gdN h
    refine zz_iastore C ddM_takeArena_103 h5 ?_
    refine zz_iinc (v := v1 + 1) (L1 := [(1, .int (v1 + 1)), (0, .ref v0)]) C 1 ddM_takeArena_104 rfl rfl N (by decide) rfl ?_
    refine zz_goto (tgt := 83) C ddM_takeArena_107 rfl ?_
    refine zz_loc (L1 := [(0, .ref v0), (1, .int (v1 + 1))]) [1, 0] rfl ?_
    exact hK _ _ h
set_option maxHeartbeats 2000000 in
theorem zLM_takeArena_83 {G : GXM} {X : CxM} (hG : GokM G) (C : CoM G X cM_takeArena "HomeFreedModel") (N : mLM X = 2) {d : Nat} (hD : dpM X = d) (hd : 0 ≤ d) {v0 : Nat} {q : (Int32 × Mem)} : ∀ (f : Nat) (v1 : Int32) (M : Mem), LM_takeArena_83 f v0 v1 M = some q → (hr : ∀ r : Int32 × Mem, q =  r → EnM G X (some .int) (some (.int r.1)) r.2 0 0) → ZM G X 83 [(0, .ref v0), (1, .int v1)] [] M 0 0 := by
  intro f
  induction f with
  | zero => intro v1 M h; cases h
  | succ f ih =>
    intro v1 M h hr
    exact zBM_takeArena_83 hG C N hD hd (K := LM_takeArena_83 f) (q := q) (fun v1 M h => ih v1 M h hr) hr h
set_option maxHeartbeats 2000000 in
theorem zBM_takeArena_61 {G : GXM} {X : CxM} (hG : GokM G) (C : CoM G X cM_takeArena "HomeFreedModel") (N : mLM X = 2) {d : Nat} (hD : dpM X = d) (hd : 0 ≤ d) {v0 : Nat} {K : Nat → Int32 → Mem → Option ((Mem))} {q : (Mem)} (hK : ∀ (v1 : Int32) (M : Mem), K v0 v1 M = some q → ZM G X 61 [(0, .ref v0), (1, .int v1)] [] M 0 0) (hx0 : ∀ y : Mem, q = y → ZM G X 81 [(0, .ref v0)] [] y 0 0) {v1 : Int32} {M : Mem} (h : BM_takeArena_61 K v0 v1 M = some q) : ZM G X 61 [(0, .ref v0), (1, .int v1)] [] M 0 0 := by
  unfold BM_takeArena_61 at h
  refine zz_iload_n C 1 ddM_takeArena_61 rfl rfl ?_
  refine zz_sipush (v := 3893) C ddM_takeArena_62 (by decide) ?_
  refine zz_icmp_ge (tgt := 81) C ddM_takeArena_65 rfl (fun hc => ?_) (fun hc => ?_)
  · replace h := iteT h hc
    refine zz_loc (L1 := [(0, .ref v0)]) [0] rfl ?_
    exact hx0 _ (Option.some.inj h).symm
  · replace h := iteF h hc
    refine zz_aload_n C 0 ddM_takeArena_68 rfl rfl ?_
    obtain ⟨h1, h⟩ := gdN h
    obtain ⟨h2, h⟩ := gdN h
    refine zz_getr C ddM_takeArena_69 fl_M_31 rfl h1 (of_decide_eq_true h2) ?_
    refine zz_iload_n C 1 ddM_takeArena_72 rfl rfl ?_
    refine zz_iconst (v := 0) C ddM_takeArena_73 (by decide) ?_
    obtain ⟨h3, h⟩ := gdN h
    refine zz_iastore C ddM_takeArena_74 h3 ?_
    refine zz_iinc (v := v1 + 1) (L1 := [(1, .int (v1 + 1)), (0, .ref v0)]) C 1 ddM_takeArena_75 rfl rfl N (by decide) rfl ?_
    refine zz_goto (tgt := 61) C ddM_takeArena_78 rfl ?_
    refine zz_loc (L1 := [(0, .ref v0), (1, .int (v1 + 1))]) [1, 0] rfl ?_
    exact hK _ _ h
set_option maxHeartbeats 2000000 in
theorem zLM_takeArena_61 {G : GXM} {X : CxM} (hG : GokM G) (C : CoM G X cM_takeArena "HomeFreedModel") (N : mLM X = 2) {d : Nat} (hD : dpM X = d) (hd : 0 ≤ d) {v0 : Nat} {q : (Mem)} : ∀ (f : Nat) (v1 : Int32) (M : Mem), LM_takeArena_61 f v0 v1 M = some q → (hx0 : ∀ y : Mem, q = y → ZM G X 81 [(0, .ref v0)] [] y 0 0) → ZM G X 61 [(0, .ref v0), (1, .int v1)] [] M 0 0 := by
  intro f
  induction f with
  | zero => intro v1 M h; cases h
  | succ f ih =>
    intro v1 M h hx0
    exact zBM_takeArena_61 hG C N hD hd (K := LM_takeArena_61 f) (q := q) (fun v1 M h => ih v1 M h hx0) hx0 h
set_option maxHeartbeats 2000000 in
theorem zBM_takeArena_35 {G : GXM} {X : CxM} (hG : GokM G) (C : CoM G X cM_takeArena "HomeFreedModel") (N : mLM X = 2) {d : Nat} (hD : dpM X = d) (hd : 0 ≤ d) {v0 : Nat} {K : Nat → Int32 → Mem → Option ((Mem))} {q : (Mem)} (hK : ∀ (v1 : Int32) (M : Mem), K v0 v1 M = some q → ZM G X 35 [(0, .ref v0), (1, .int v1)] [] M 0 0) (hx0 : ∀ y : Mem, q = y → ZM G X 59 [(0, .ref v0)] [] y 0 0) {v1 : Int32} {M : Mem} (h : BM_takeArena_35 K v0 v1 M = some q) : ZM G X 35 [(0, .ref v0), (1, .int v1)] [] M 0 0 := by
  unfold BM_takeArena_35 at h
  refine zz_iload_n C 1 ddM_takeArena_35 rfl rfl ?_
  refine zz_bipush (v := 6) C ddM_takeArena_36 (by decide) ?_
  refine zz_icmp_ge (tgt := 59) C ddM_takeArena_38 rfl (fun hc => ?_) (fun hc => ?_)
  · replace h := iteT h hc
    refine zz_loc (L1 := [(0, .ref v0)]) [0] rfl ?_
    exact hx0 _ (Option.some.inj h).symm
  · replace h := iteF h hc
    refine zz_aload_n C 0 ddM_takeArena_41 rfl rfl ?_
    obtain ⟨h1, h⟩ := gdN h
    obtain ⟨h2, h⟩ := gdN h
    refine zz_getr C ddM_takeArena_42 fl_M_22 rfl h1 (of_decide_eq_true h2) ?_
    refine zz_iload_n C 1 ddM_takeArena_45 rfl rfl ?_
    refine zz_aload_n C 0 ddM_takeArena_46 rfl rfl ?_
    obtain ⟨h3, h⟩ := gdN h
    refine zz_getr C ddM_takeArena_47 fl_M_16 rfl h1 (of_decide_eq_true h3) ?_
    refine zz_iload_n C 1 ddM_takeArena_50 rfl rfl ?_
    obtain ⟨h4, h⟩ := gdN h
    refine zz_iaload C ddM_takeArena_51 h4 ?_
    obtain ⟨h5, h⟩ := gdN h
    refine zz_iastore C ddM_takeArena_52 h5 ?_
    refine zz_iinc (v := v1 + 1) (L1 := [(1, .int (v1 + 1)), (0, .ref v0)]) C 1 ddM_takeArena_53 rfl rfl N (by decide) rfl ?_
    refine zz_goto (tgt := 35) C ddM_takeArena_56 rfl ?_
    refine zz_loc (L1 := [(0, .ref v0), (1, .int (v1 + 1))]) [1, 0] rfl ?_
    exact hK _ _ h
set_option maxHeartbeats 2000000 in
theorem zLM_takeArena_35 {G : GXM} {X : CxM} (hG : GokM G) (C : CoM G X cM_takeArena "HomeFreedModel") (N : mLM X = 2) {d : Nat} (hD : dpM X = d) (hd : 0 ≤ d) {v0 : Nat} {q : (Mem)} : ∀ (f : Nat) (v1 : Int32) (M : Mem), LM_takeArena_35 f v0 v1 M = some q → (hx0 : ∀ y : Mem, q = y → ZM G X 59 [(0, .ref v0)] [] y 0 0) → ZM G X 35 [(0, .ref v0), (1, .int v1)] [] M 0 0 := by
  intro f
  induction f with
  | zero => intro v1 M h; cases h
  | succ f ih =>
    intro v1 M h hx0
    exact zBM_takeArena_35 hG C N hD hd (K := LM_takeArena_35 f) (q := q) (fun v1 M h => ih v1 M h hx0) hx0 h
set_option maxHeartbeats 2000000 in
theorem zBM_takeArena_10 {G : GXM} {X : CxM} (hG : GokM G) (C : CoM G X cM_takeArena "HomeFreedModel") (N : mLM X = 2) {d : Nat} (hD : dpM X = d) (hd : 0 ≤ d) {v0 : Nat} {K : Nat → Int32 → Mem → Option ((Mem))} {q : (Mem)} (hK : ∀ (v1 : Int32) (M : Mem), K v0 v1 M = some q → ZM G X 10 [(0, .ref v0), (1, .int v1)] [] M 0 0) (hx0 : ∀ y : Mem, q = y → ZM G X 33 [(0, .ref v0)] [] y 0 0) {v1 : Int32} {M : Mem} (h : BM_takeArena_10 K v0 v1 M = some q) : ZM G X 10 [(0, .ref v0), (1, .int v1)] [] M 0 0 := by
  unfold BM_takeArena_10 at h
  refine zz_iload_n C 1 ddM_takeArena_10 rfl rfl ?_
  refine zz_iconst (v := 5) C ddM_takeArena_11 (by decide) ?_
  refine zz_icmp_ge (tgt := 33) C ddM_takeArena_12 rfl (fun hc => ?_) (fun hc => ?_)
  · replace h := iteT h hc
    refine zz_loc (L1 := [(0, .ref v0)]) [0] rfl ?_
    exact hx0 _ (Option.some.inj h).symm
  · replace h := iteF h hc
    refine zz_aload_n C 0 ddM_takeArena_15 rfl rfl ?_
    obtain ⟨h1, h⟩ := gdN h
    obtain ⟨h2, h⟩ := gdN h
    refine zz_getr C ddM_takeArena_16 fl_M_19 rfl h1 (of_decide_eq_true h2) ?_
    refine zz_iload_n C 1 ddM_takeArena_19 rfl rfl ?_
    refine zz_aload_n C 0 ddM_takeArena_20 rfl rfl ?_
    obtain ⟨h3, h⟩ := gdN h
    refine zz_getr C ddM_takeArena_21 fl_M_13 rfl h1 (of_decide_eq_true h3) ?_
    refine zz_iload_n C 1 ddM_takeArena_24 rfl rfl ?_
    obtain ⟨h4, h⟩ := gdN h
    refine zz_iaload C ddM_takeArena_25 h4 ?_
    obtain ⟨h5, h⟩ := gdN h
    refine zz_iastore C ddM_takeArena_26 h5 ?_
    refine zz_iinc (v := v1 + 1) (L1 := [(1, .int (v1 + 1)), (0, .ref v0)]) C 1 ddM_takeArena_27 rfl rfl N (by decide) rfl ?_
    refine zz_goto (tgt := 10) C ddM_takeArena_30 rfl ?_
    refine zz_loc (L1 := [(0, .ref v0), (1, .int (v1 + 1))]) [1, 0] rfl ?_
    exact hK _ _ h
set_option maxHeartbeats 2000000 in
theorem zLM_takeArena_10 {G : GXM} {X : CxM} (hG : GokM G) (C : CoM G X cM_takeArena "HomeFreedModel") (N : mLM X = 2) {d : Nat} (hD : dpM X = d) (hd : 0 ≤ d) {v0 : Nat} {q : (Mem)} : ∀ (f : Nat) (v1 : Int32) (M : Mem), LM_takeArena_10 f v0 v1 M = some q → (hx0 : ∀ y : Mem, q = y → ZM G X 33 [(0, .ref v0)] [] y 0 0) → ZM G X 10 [(0, .ref v0), (1, .int v1)] [] M 0 0 := by
  intro f
  induction f with
  | zero => intro v1 M h; cases h
  | succ f ih =>
    intro v1 M h hx0
    exact zBM_takeArena_10 hG C N hD hd (K := LM_takeArena_10 f) (q := q) (fun v1 M h => ih v1 M h hx0) hx0 h
set_option maxHeartbeats 2000000 in
theorem xM_takeArena {G : GXM} {l : Launch} (hG : GokM G) (d : Nat) (hd : 0 ≤ d) {v0 : Nat} {M : Mem} {q : Int32 × Mem} (h : fM_takeArena v0 M = some q) : ExM G l d 0 0 yM_takeArena cM_takeArena 2 (some .int) [.ref v0] M (some (.int q.1)) q.2 := by
  refine ex_of hG (by decide +kernel) (Nat.le_of_ble_eq_true rfl) ?_
  intro X hl C E N hD hn
  show ZM G X 0 [(0, .ref v0)] [] M 0 0
  unfold fM_takeArena at h
  refine zz_aload_n C 0 ddM_takeArena_0 rfl rfl ?_
  refine zz_aload_n C 0 ddM_takeArena_1 rfl rfl ?_
  obtain ⟨h1, h⟩ := gdN h
  refine zz_geti C ddM_takeArena_2 fl_M_116 rfl h1 ?_
  refine zz_puti C ddM_takeArena_5 fl_M_144 rfl rfl rfl h1 ?_
  refine zz_iconst (v := 0) C ddM_takeArena_8 (by decide) ?_
  refine zz_istore_n (L1 := [(1, .int 0), (0, .ref v0)]) C ddM_takeArena_9 rfl N (by decide) rfl ?_
  refine zz_loc (L1 := [(0, .ref v0), (1, .int 0)]) [1, 0] rfl ?_
  obtain ⟨q2, hq2, h⟩ := bindN h
  refine zLM_takeArena_10 hG C N hD hd 1000000 _ _ hq2 ?_
  · intro y3 eq2; replace eq2 := eq2.symm; subst eq2
    refine zz_iconst (v := 0) C ddM_takeArena_33 (by decide) ?_
    refine zz_istore_n (L1 := [(1, .int 0), (0, .ref v0)]) C ddM_takeArena_34 rfl N (by decide) rfl ?_
    refine zz_loc (L1 := [(0, .ref v0), (1, .int 0)]) [1, 0] rfl ?_
    obtain ⟨q4, hq4, h⟩ := bindN h
    refine zLM_takeArena_35 hG C N hD hd 1000000 _ _ hq4 ?_
    · intro y5 eq4; replace eq4 := eq4.symm; subst eq4
      refine zz_iconst (v := 0) C ddM_takeArena_59 (by decide) ?_
      refine zz_istore_n (L1 := [(1, .int 0), (0, .ref v0)]) C ddM_takeArena_60 rfl N (by decide) rfl ?_
      refine zz_loc (L1 := [(0, .ref v0), (1, .int 0)]) [1, 0] rfl ?_
      obtain ⟨q6, hq6, h⟩ := bindN h
      refine zLM_takeArena_61 hG C N hD hd 1000000 _ _ hq6 ?_
      · intro y7 eq6; replace eq6 := eq6.symm; subst eq6
        refine zz_iconst (v := 0) C ddM_takeArena_81 (by decide) ?_
        refine zz_istore_n (L1 := [(1, .int 0), (0, .ref v0)]) C ddM_takeArena_82 rfl N (by decide) rfl ?_
        refine zz_loc (L1 := [(0, .ref v0), (1, .int 0)]) [1, 0] rfl ?_
        obtain ⟨q8, hq8, h⟩ := bindN h
        refine zLM_takeArena_83 hG C N hD hd 1000000 _ _ hq8 ?_
        · intro r9 eq8; replace eq8 := eq8.symm; subst eq8
          obtain rfl := Option.some.inj h
          exact E
theorem ddM_text_0 : decode cM_text 0 = .ok (.iload_n 1, 1) := by decide +kernel
theorem ddM_text_1 : decode cM_text 1 = .ok (.ifCond .ne 21, 3) := by decide +kernel
theorem ddM_text_4 : decode cM_text 4 = .ok (.aload_n 0, 1) := by decide +kernel
theorem ddM_text_5 : decode cM_text 5 = .ok (.invokevirtual 138, 3) := by decide +kernel
theorem ddM_text_8 : decode cM_text 8 = .ok (.iconst (-1), 1) := by decide +kernel
theorem ddM_text_9 : decode cM_text 9 = .ok (.if_icmp .ne 13, 3) := by decide +kernel
theorem ddM_text_12 : decode cM_text 12 = .ok (.aload_n 0, 1) := by decide +kernel
theorem ddM_text_13 : decode cM_text 13 = .ok (.iconst 0, 1) := by decide +kernel
theorem ddM_text_14 : decode cM_text 14 = .ok (.putfield 72, 3) := by decide +kernel
theorem ddM_text_17 : decode cM_text 17 = .ok (.aload_n 0, 1) := by decide +kernel
theorem ddM_text_18 : decode cM_text 18 = .ok (.invokevirtual 154, 3) := by decide +kernel
theorem ddM_text_21 : decode cM_text 21 = .ok (.ireturn, 1) := by decide +kernel
theorem ddM_text_22 : decode cM_text 22 = .ok (.iload_n 1, 1) := by decide +kernel
theorem ddM_text_23 : decode cM_text 23 = .ok (.iconst 1, 1) := by decide +kernel
theorem ddM_text_24 : decode cM_text 24 = .ok (.if_icmp .ne 45, 3) := by decide +kernel
theorem ddM_text_27 : decode cM_text 27 = .ok (.aload_n 0, 1) := by decide +kernel
theorem ddM_text_28 : decode cM_text 28 = .ok (.getfield 157, 3) := by decide +kernel
theorem ddM_text_31 : decode cM_text 31 = .ok (.iconst 4, 1) := by decide +kernel
theorem ddM_text_32 : decode cM_text 32 = .ok (.if_icmp .ge 37, 3) := by decide +kernel
theorem ddM_text_35 : decode cM_text 35 = .ok (.aload_n 0, 1) := by decide +kernel
theorem ddM_text_36 : decode cM_text 36 = .ok (.aload_n 0, 1) := by decide +kernel
theorem ddM_text_37 : decode cM_text 37 = .ok (.getfield 157, 3) := by decide +kernel
theorem ddM_text_40 : decode cM_text 40 = .ok (.invokevirtual 141, 3) := by decide +kernel
theorem ddM_text_43 : decode cM_text 43 = .ok (.iconst (-1), 1) := by decide +kernel
theorem ddM_text_44 : decode cM_text 44 = .ok (.if_icmp .ne 25, 3) := by decide +kernel
theorem ddM_text_47 : decode cM_text 47 = .ok (.aload_n 0, 1) := by decide +kernel
theorem ddM_text_48 : decode cM_text 48 = .ok (.iconst 0, 1) := by decide +kernel
theorem ddM_text_49 : decode cM_text 49 = .ok (.putfield 72, 3) := by decide +kernel
theorem ddM_text_52 : decode cM_text 52 = .ok (.aload_n 0, 1) := by decide +kernel
theorem ddM_text_53 : decode cM_text 53 = .ok (.dup, 1) := by decide +kernel
theorem ddM_text_54 : decode cM_text 54 = .ok (.getfield 157, 3) := by decide +kernel
theorem ddM_text_57 : decode cM_text 57 = .ok (.iconst 1, 1) := by decide +kernel
theorem ddM_text_58 : decode cM_text 58 = .ok (.iadd, 1) := by decide +kernel
theorem ddM_text_59 : decode cM_text 59 = .ok (.putfield 157, 3) := by decide +kernel
theorem ddM_text_62 : decode cM_text 62 = .ok (.aload_n 0, 1) := by decide +kernel
theorem ddM_text_63 : decode cM_text 63 = .ok (.getfield 157, 3) := by decide +kernel
theorem ddM_text_66 : decode cM_text 66 = .ok (.iconst 1, 1) := by decide +kernel
theorem ddM_text_67 : decode cM_text 67 = .ok (.isub, 1) := by decide +kernel
theorem ddM_text_68 : decode cM_text 68 = .ok (.ireturn, 1) := by decide +kernel
theorem ddM_text_69 : decode cM_text 69 = .ok (.iconst (-1), 1) := by decide +kernel
theorem ddM_text_70 : decode cM_text 70 = .ok (.ireturn, 1) := by decide +kernel
set_option maxHeartbeats 2000000 in
theorem zBM_text_69 {G : GXM} {X : CxM} (hG : GokM G) (C : CoM G X cM_text "HomeFreedModel") (N : mLM X = 2) {d : Nat} (hD : dpM X = d) (hd : 5 ≤ d)  {q : Int32 × Mem} (E : EnM G X (some .int) (some (.int q.1)) q.2 0 0) {M : Mem} (h : BM_text_69 M = some q) : ZM G X 69 [] [] M 0 0 := by
  unfold BM_text_69 at h
  refine zz_iconst (v := (-1)) C ddM_text_69 (by decide) ?_
  obtain rfl := Option.some.inj h
  exact zz_iret C E ddM_text_70
set_option maxHeartbeats 2000000 in
theorem zBM_text_22 {G : GXM} {X : CxM} (hG : GokM G) (C : CoM G X cM_text "HomeFreedModel") (N : mLM X = 2) {d : Nat} (hD : dpM X = d) (hd : 5 ≤ d)  {q : Int32 × Mem} (E : EnM G X (some .int) (some (.int q.1)) q.2 0 0) {v0 : Nat} {v1 : Int32} {M : Mem} (h : BM_text_22 v0 v1 M = some q) : ZM G X 22 [(0, .ref v0), (1, .int v1)] [] M 0 0 := by
  unfold BM_text_22 at h
  refine zz_iload_n C 1 ddM_text_22 rfl rfl ?_
  refine zz_iconst (v := 1) C ddM_text_23 (by decide) ?_
  refine zz_icmp_ne (tgt := 69) C ddM_text_24 rfl (fun hc => ?_) (fun hc => ?_)
  · replace h := iteF h hc
    refine zz_loc (L1 := []) [] rfl ?_
    exact zBM_text_69 hG C N hD hd E h
  · replace h := iteT h hc
    refine zz_aload_n C 0 ddM_text_27 rfl rfl ?_
    obtain ⟨h1, h⟩ := gdN h
    refine zz_geti C ddM_text_28 fl_M_157 rfl h1 ?_
    refine zz_iconst (v := 4) C ddM_text_31 (by decide) ?_
    refine zz_icmp_ge (tgt := 69) C ddM_text_32 rfl (fun hc => ?_) (fun hc => ?_)
    · replace h := iteT h hc
      refine zz_loc (L1 := []) [] rfl ?_
      exact zBM_text_69 hG C N hD hd E h
    · replace h := iteF h hc
      refine zz_aload_n C 0 ddM_text_35 rfl rfl ?_
      refine zz_aload_n C 0 ddM_text_36 rfl rfl ?_
      refine zz_geti C ddM_text_37 fl_M_157 rfl h1 ?_
      obtain ⟨q2, hq2, h⟩ := bindN h
      refine zz_callV0 (As := [.int (giM M v0 13)]) C ddM_text_40 wd_1339 my_M_readScript mv_M_readScript ⟨_, rfl, rfl⟩ (xM_readScript hG (d - 1) (by omega) hq2) (by omega) h1 rfl rfl (Nat.le_of_ble_eq_true rfl) ?_
      refine zz_iconst (v := (-1)) C ddM_text_43 (by decide) ?_
      refine zz_icmp_ne (tgt := 69) C ddM_text_44 rfl (fun hc => ?_) (fun hc => ?_)
      · replace h := iteF h hc
        refine zz_loc (L1 := []) [] rfl ?_
        exact zBM_text_69 hG C N hD hd E h
      · replace h := iteT h hc
        refine zz_aload_n C 0 ddM_text_47 rfl rfl ?_
        refine zz_iconst (v := 0) C ddM_text_48 (by decide) ?_
        obtain ⟨h3, h⟩ := gdN h
        refine zz_puti C ddM_text_49 fl_M_72 rfl rfl rfl h3 ?_
        refine zz_aload_n C 0 ddM_text_52 rfl rfl ?_
        refine zz_dup C ddM_text_53 rfl ?_
        refine zz_geti C ddM_text_54 fl_M_157 rfl h3 ?_
        refine zz_iconst (v := 1) C ddM_text_57 (by decide) ?_
        refine zz_iadd C ddM_text_58 ?_
        refine zz_puti C ddM_text_59 fl_M_157 rfl rfl rfl h3 ?_
        refine zz_aload_n C 0 ddM_text_62 rfl rfl ?_
        refine zz_geti C ddM_text_63 fl_M_157 rfl h3 ?_
        refine zz_iconst (v := 1) C ddM_text_66 (by decide) ?_
        refine zz_isub C ddM_text_67 ?_
        obtain rfl := Option.some.inj h
        exact zz_iret C E ddM_text_68
set_option maxHeartbeats 2000000 in
theorem xM_text {G : GXM} {l : Launch} (hG : GokM G) (d : Nat) (hd : 5 ≤ d) {v0 : Nat} {v1 : Int32} {M : Mem} {q : Int32 × Mem} (h : fM_text v0 v1 M = some q) : ExM G l d 0 0 yM_text cM_text 2 (some .int) [.ref v0, .int v1] M (some (.int q.1)) q.2 := by
  refine ex_of hG (by decide +kernel) (Nat.le_of_ble_eq_true rfl) ?_
  intro X hl C E N hD hn
  show ZM G X 0 [(0, .ref v0), (1, .int v1)] [] M 0 0
  unfold fM_text at h
  refine zz_iload_n C 1 ddM_text_0 rfl rfl ?_
  refine zz_if_ne (tgt := 22) C ddM_text_1 rfl (fun hc => ?_) (fun hc => ?_)
  · replace h := iteF h hc
    exact zBM_text_22 hG C N hD hd E h
  · replace h := iteT h hc
    refine zz_aload_n C 0 ddM_text_4 rfl rfl ?_
    obtain ⟨h2, h⟩ := gdN h
    obtain ⟨q1, hq1, h⟩ := bindN h
    refine zz_callV0 (As := []) C ddM_text_5 wd_1296 my_M_readArena mv_M_readArena ⟨_, rfl, rfl⟩ (xM_readArena hG (d - 1) (by omega) hq1) (by omega) h2 rfl rfl (Nat.le_of_ble_eq_true rfl) ?_
    refine zz_iconst (v := (-1)) C ddM_text_8 (by decide) ?_
    refine zz_icmp_ne (tgt := 22) C ddM_text_9 rfl (fun hc => ?_) (fun hc => ?_)
    · replace h := iteF h hc
      exact zBM_text_22 hG C N hD hd E h
    · replace h := iteT h hc
      refine zz_aload_n C 0 ddM_text_12 rfl rfl ?_
      refine zz_iconst (v := 0) C ddM_text_13 (by decide) ?_
      obtain ⟨h3, h⟩ := gdN h
      refine zz_puti C ddM_text_14 fl_M_72 rfl rfl rfl h3 ?_
      refine zz_aload_n C 0 ddM_text_17 rfl rfl ?_
      obtain ⟨q4, hq4, h⟩ := bindN h
      refine zz_callV0 (As := []) C ddM_text_18 wd_1354 my_M_takeArena mv_M_takeArena ⟨_, rfl, rfl⟩ (xM_takeArena hG (d - 1) (by omega) hq4) (by omega) h3 rfl rfl (Nat.le_of_ble_eq_true rfl) ?_
      obtain rfl := Option.some.inj h
      exact zz_iret C E ddM_text_21
theorem ddM_isArena_0 : decode cM_isArena 0 = .ok (.aload_n 0, 1) := by decide +kernel
theorem ddM_isArena_1 : decode cM_isArena 1 = .ok (.getfield 144, 3) := by decide +kernel
theorem ddM_isArena_4 : decode cM_isArena 4 = .ok (.ifCond .le 7, 3) := by decide +kernel
theorem ddM_isArena_7 : decode cM_isArena 7 = .ok (.iconst 1, 1) := by decide +kernel
theorem ddM_isArena_8 : decode cM_isArena 8 = .ok (.goto 4, 3) := by decide +kernel
theorem ddM_isArena_11 : decode cM_isArena 11 = .ok (.iconst 0, 1) := by decide +kernel
theorem ddM_isArena_12 : decode cM_isArena 12 = .ok (.ireturn, 1) := by decide +kernel
set_option maxHeartbeats 2000000 in
theorem zBM_isArena_12 {G : GXM} {X : CxM} (hG : GokM G) (C : CoM G X cM_isArena "HomeFreedModel") (N : mLM X = 1) {d : Nat} (hD : dpM X = d) (hd : 0 ≤ d)  {q : Int32 × Mem} (E : EnM G X (some .boolean) (some (.int q.1)) q.2 0 0) {w0 : Int32} {M : Mem} (h : BM_isArena_12 w0 M = some q) : ZM G X 12 [] [.int w0] M 0 0 := by
  unfold BM_isArena_12 at h
  obtain ⟨h1, h⟩ := gdN h
  obtain rfl := Option.some.inj h
  exact zz_zret C (of_decide_eq_true h1) E ddM_isArena_12
set_option maxHeartbeats 2000000 in
theorem xM_isArena {G : GXM} {l : Launch} (hG : GokM G) (d : Nat) (hd : 0 ≤ d) {v0 : Nat} {M : Mem} {q : Int32 × Mem} (h : fM_isArena v0 M = some q) : ExM G l d 0 0 yM_isArena cM_isArena 1 (some .boolean) [.ref v0] M (some (.int q.1)) q.2 := by
  refine ex_of hG (by decide +kernel) (Nat.le_of_ble_eq_true rfl) ?_
  intro X hl C E N hD hn
  show ZM G X 0 [(0, .ref v0)] [] M 0 0
  unfold fM_isArena at h
  refine zz_aload_n C 0 ddM_isArena_0 rfl rfl ?_
  obtain ⟨h1, h⟩ := gdN h
  refine zz_geti C ddM_isArena_1 fl_M_144 rfl h1 ?_
  refine zz_if_le (tgt := 11) C ddM_isArena_4 rfl (fun hc => ?_) (fun hc => ?_)
  · replace h := iteT h hc
    refine zz_iconst (v := 0) C ddM_isArena_11 (by decide) ?_
    refine zz_loc (L1 := []) [] rfl ?_
    exact zBM_isArena_12 hG C N hD hd E h
  · replace h := iteF h hc
    refine zz_iconst (v := 1) C ddM_isArena_7 (by decide) ?_
    refine zz_goto (tgt := 12) C ddM_isArena_8 rfl ?_
    refine zz_loc (L1 := []) [] rfl ?_
    exact zBM_isArena_12 hG C N hD hd E h
theorem ddM_rule_0 : decode cM_rule 0 = .ok (.aload_n 0, 1) := by decide +kernel
theorem ddM_rule_1 : decode cM_rule 1 = .ok (.invokevirtual 160, 3) := by decide +kernel
theorem ddM_rule_4 : decode cM_rule 4 = .ok (.ifCond .eq 21, 3) := by decide +kernel
theorem ddM_rule_7 : decode cM_rule 7 = .ok (.iload_n 1, 1) := by decide +kernel
theorem ddM_rule_8 : decode cM_rule 8 = .ok (.iconst 0, 1) := by decide +kernel
theorem ddM_rule_9 : decode cM_rule 9 = .ok (.iconst 4, 1) := by decide +kernel
theorem ddM_rule_10 : decode cM_rule 10 = .ok (.invokestatic 75, 3) := by decide +kernel
theorem ddM_rule_13 : decode cM_rule 13 = .ok (.ifCond .eq 12, 3) := by decide +kernel
theorem ddM_rule_16 : decode cM_rule 16 = .ok (.aload_n 0, 1) := by decide +kernel
theorem ddM_rule_17 : decode cM_rule 17 = .ok (.getfield 19, 3) := by decide +kernel
theorem ddM_rule_20 : decode cM_rule 20 = .ok (.iload_n 1, 1) := by decide +kernel
theorem ddM_rule_21 : decode cM_rule 21 = .ok (.iaload, 1) := by decide +kernel
theorem ddM_rule_22 : decode cM_rule 22 = .ok (.goto 4, 3) := by decide +kernel
theorem ddM_rule_25 : decode cM_rule 25 = .ok (.iconst (-1), 1) := by decide +kernel
theorem ddM_rule_26 : decode cM_rule 26 = .ok (.ireturn, 1) := by decide +kernel
set_option maxHeartbeats 2000000 in
theorem zBM_rule_26 {G : GXM} {X : CxM} (hG : GokM G) (C : CoM G X cM_rule "HomeFreedModel") (N : mLM X = 2) {d : Nat} (hD : dpM X = d) (hd : 1 ≤ d)  {q : Int32 × Mem} (E : EnM G X (some .int) (some (.int q.1)) q.2 0 0) {w0 : Int32} {M : Mem} (h : BM_rule_26 w0 M = some q) : ZM G X 26 [] [.int w0] M 0 0 := by
  unfold BM_rule_26 at h
  obtain rfl := Option.some.inj h
  exact zz_iret C E ddM_rule_26
set_option maxHeartbeats 2000000 in
theorem zBM_rule_25 {G : GXM} {X : CxM} (hG : GokM G) (C : CoM G X cM_rule "HomeFreedModel") (N : mLM X = 2) {d : Nat} (hD : dpM X = d) (hd : 1 ≤ d)  {q : Int32 × Mem} (E : EnM G X (some .int) (some (.int q.1)) q.2 0 0) {M : Mem} (h : BM_rule_25 M = some q) : ZM G X 25 [] [] M 0 0 := by
  unfold BM_rule_25 at h
  refine zz_iconst (v := (-1)) C ddM_rule_25 (by decide) ?_
  exact zBM_rule_26 hG C N hD hd E h
set_option maxHeartbeats 2000000 in
theorem xM_rule {G : GXM} {l : Launch} (hG : GokM G) (d : Nat) (hd : 1 ≤ d) {v0 : Nat} {v1 : Int32} {M : Mem} {q : Int32 × Mem} (h : fM_rule v0 v1 M = some q) : ExM G l d 0 0 yM_rule cM_rule 2 (some .int) [.ref v0, .int v1] M (some (.int q.1)) q.2 := by
  refine ex_of hG (by decide +kernel) (Nat.le_of_ble_eq_true rfl) ?_
  intro X hl C E N hD hn
  show ZM G X 0 [(0, .ref v0), (1, .int v1)] [] M 0 0
  unfold fM_rule at h
  refine zz_aload_n C 0 ddM_rule_0 rfl rfl ?_
  obtain ⟨h2, h⟩ := gdN h
  obtain ⟨q1, hq1, h⟩ := bindN h
  refine zz_callV0 (As := []) C ddM_rule_1 wd_1362 my_M_isArena mv_M_isArena ⟨_, rfl, rfl⟩ (xM_isArena hG (d - 1) (by omega) hq1) (by omega) h2 rfl rfl (Nat.le_of_ble_eq_true rfl) ?_
  refine zz_if_eq (tgt := 25) C ddM_rule_4 rfl (fun hc => ?_) (fun hc => ?_)
  · replace h := iteT h hc
    refine zz_loc (L1 := []) [] rfl ?_
    exact zBM_rule_25 hG C N hD hd E h
  · replace h := iteF h hc
    refine zz_iload_n C 1 ddM_rule_7 rfl rfl ?_
    refine zz_iconst (v := 0) C ddM_rule_8 (by decide) ?_
    refine zz_iconst (v := 4) C ddM_rule_9 (by decide) ?_
    obtain ⟨q3, hq3, h⟩ := bindN h
    refine zz_callS0 (As := [.int v1, .int 0, .int 4]) C ddM_rule_10 wd_1289 my_M_in mv_M_in (xM_in hG (d - 1) (by omega) hq3) (by omega) rfl rfl (Nat.le_of_ble_eq_true rfl) ?_
    refine zz_if_eq (tgt := 25) C ddM_rule_13 rfl (fun hc => ?_) (fun hc => ?_)
    · replace h := iteT h hc
      refine zz_loc (L1 := []) [] rfl ?_
      exact zBM_rule_25 hG C N hD hd E h
    · replace h := iteF h hc
      refine zz_aload_n C 0 ddM_rule_16 rfl rfl ?_
      obtain ⟨h4, h⟩ := gdN h
      obtain ⟨h5, h⟩ := gdN h
      refine zz_getr C ddM_rule_17 fl_M_19 rfl h4 (of_decide_eq_true h5) ?_
      refine zz_iload_n C 1 ddM_rule_20 rfl rfl ?_
      obtain ⟨h6, h⟩ := gdN h
      refine zz_iaload C ddM_rule_21 h6 ?_
      refine zz_goto (tgt := 26) C ddM_rule_22 rfl ?_
      refine zz_loc (L1 := []) [] rfl ?_
      exact zBM_rule_26 hG C N hD hd E h
theorem ddM_size_0 : decode cM_size 0 = .ok (.iload_n 1, 1) := by decide +kernel
theorem ddM_size_1 : decode cM_size 1 = .ok (.iconst 0, 1) := by decide +kernel
theorem ddM_size_2 : decode cM_size 2 = .ok (.aload_n 0, 1) := by decide +kernel
theorem ddM_size_3 : decode cM_size 3 = .ok (.getfield 144, 3) := by decide +kernel
theorem ddM_size_6 : decode cM_size 6 = .ok (.iconst 1, 1) := by decide +kernel
theorem ddM_size_7 : decode cM_size 7 = .ok (.isub, 1) := by decide +kernel
theorem ddM_size_8 : decode cM_size 8 = .ok (.invokestatic 75, 3) := by decide +kernel
theorem ddM_size_11 : decode cM_size 11 = .ok (.ifCond .eq 12, 3) := by decide +kernel
theorem ddM_size_14 : decode cM_size 14 = .ok (.aload_n 0, 1) := by decide +kernel
theorem ddM_size_15 : decode cM_size 15 = .ok (.getfield 22, 3) := by decide +kernel
theorem ddM_size_18 : decode cM_size 18 = .ok (.iload_n 1, 1) := by decide +kernel
theorem ddM_size_19 : decode cM_size 19 = .ok (.iaload, 1) := by decide +kernel
theorem ddM_size_20 : decode cM_size 20 = .ok (.goto 4, 3) := by decide +kernel
theorem ddM_size_23 : decode cM_size 23 = .ok (.iconst (-1), 1) := by decide +kernel
theorem ddM_size_24 : decode cM_size 24 = .ok (.ireturn, 1) := by decide +kernel
set_option maxHeartbeats 2000000 in
theorem zBM_size_24 {G : GXM} {X : CxM} (hG : GokM G) (C : CoM G X cM_size "HomeFreedModel") (N : mLM X = 2) {d : Nat} (hD : dpM X = d) (hd : 1 ≤ d)  {q : Int32 × Mem} (E : EnM G X (some .int) (some (.int q.1)) q.2 0 0) {w0 : Int32} {M : Mem} (h : BM_size_24 w0 M = some q) : ZM G X 24 [] [.int w0] M 0 0 := by
  unfold BM_size_24 at h
  obtain rfl := Option.some.inj h
  exact zz_iret C E ddM_size_24
set_option maxHeartbeats 2000000 in
theorem xM_size {G : GXM} {l : Launch} (hG : GokM G) (d : Nat) (hd : 1 ≤ d) {v0 : Nat} {v1 : Int32} {M : Mem} {q : Int32 × Mem} (h : fM_size v0 v1 M = some q) : ExM G l d 0 0 yM_size cM_size 2 (some .int) [.ref v0, .int v1] M (some (.int q.1)) q.2 := by
  refine ex_of hG (by decide +kernel) (Nat.le_of_ble_eq_true rfl) ?_
  intro X hl C E N hD hn
  show ZM G X 0 [(0, .ref v0), (1, .int v1)] [] M 0 0
  unfold fM_size at h
  refine zz_iload_n C 1 ddM_size_0 rfl rfl ?_
  refine zz_iconst (v := 0) C ddM_size_1 (by decide) ?_
  refine zz_aload_n C 0 ddM_size_2 rfl rfl ?_
  obtain ⟨h1, h⟩ := gdN h
  refine zz_geti C ddM_size_3 fl_M_144 rfl h1 ?_
  refine zz_iconst (v := 1) C ddM_size_6 (by decide) ?_
  refine zz_isub C ddM_size_7 ?_
  obtain ⟨q2, hq2, h⟩ := bindN h
  refine zz_callS0 (As := [.int v1, .int 0, .int ((giM M v0 10) - 1)]) C ddM_size_8 wd_1289 my_M_in mv_M_in (xM_in hG (d - 1) (by omega) hq2) (by omega) rfl rfl (Nat.le_of_ble_eq_true rfl) ?_
  refine zz_if_eq (tgt := 23) C ddM_size_11 rfl (fun hc => ?_) (fun hc => ?_)
  · replace h := iteT h hc
    refine zz_iconst (v := (-1)) C ddM_size_23 (by decide) ?_
    refine zz_loc (L1 := []) [] rfl ?_
    exact zBM_size_24 hG C N hD hd E h
  · replace h := iteF h hc
    refine zz_aload_n C 0 ddM_size_14 rfl rfl ?_
    obtain ⟨h3, h⟩ := gdN h
    obtain ⟨h4, h⟩ := gdN h
    refine zz_getr C ddM_size_15 fl_M_22 rfl h3 (of_decide_eq_true h4) ?_
    refine zz_iload_n C 1 ddM_size_18 rfl rfl ?_
    obtain ⟨h5, h⟩ := gdN h
    refine zz_iaload C ddM_size_19 h5 ?_
    refine zz_goto (tgt := 24) C ddM_size_20 rfl ?_
    refine zz_loc (L1 := []) [] rfl ?_
    exact zBM_size_24 hG C N hD hd E h
theorem ddM_isPage_0 : decode cM_isPage 0 = .ok (.aload_n 0, 1) := by decide +kernel
theorem ddM_isPage_1 : decode cM_isPage 1 = .ok (.invokevirtual 160, 3) := by decide +kernel
theorem ddM_isPage_4 : decode cM_isPage 4 = .ok (.ifCond .eq 23, 3) := by decide +kernel
theorem ddM_isPage_7 : decode cM_isPage 7 = .ok (.iload_n 1, 1) := by decide +kernel
theorem ddM_isPage_8 : decode cM_isPage 8 = .ok (.iconst 0, 1) := by decide +kernel
theorem ddM_isPage_9 : decode cM_isPage 9 = .ok (.aload_n 0, 1) := by decide +kernel
theorem ddM_isPage_10 : decode cM_isPage 10 = .ok (.getfield 19, 3) := by decide +kernel
theorem ddM_isPage_13 : decode cM_isPage 13 = .ok (.iconst 1, 1) := by decide +kernel
theorem ddM_isPage_14 : decode cM_isPage 14 = .ok (.iaload, 1) := by decide +kernel
theorem ddM_isPage_15 : decode cM_isPage 15 = .ok (.iconst 1, 1) := by decide +kernel
theorem ddM_isPage_16 : decode cM_isPage 16 = .ok (.isub, 1) := by decide +kernel
theorem ddM_isPage_17 : decode cM_isPage 17 = .ok (.invokestatic 75, 3) := by decide +kernel
theorem ddM_isPage_20 : decode cM_isPage 20 = .ok (.ifCond .eq 7, 3) := by decide +kernel
theorem ddM_isPage_23 : decode cM_isPage 23 = .ok (.iconst 1, 1) := by decide +kernel
theorem ddM_isPage_24 : decode cM_isPage 24 = .ok (.goto 4, 3) := by decide +kernel
theorem ddM_isPage_27 : decode cM_isPage 27 = .ok (.iconst 0, 1) := by decide +kernel
theorem ddM_isPage_28 : decode cM_isPage 28 = .ok (.ireturn, 1) := by decide +kernel
set_option maxHeartbeats 2000000 in
theorem zBM_isPage_28 {G : GXM} {X : CxM} (hG : GokM G) (C : CoM G X cM_isPage "HomeFreedModel") (N : mLM X = 2) {d : Nat} (hD : dpM X = d) (hd : 1 ≤ d)  {q : Int32 × Mem} (E : EnM G X (some .boolean) (some (.int q.1)) q.2 0 0) {w0 : Int32} {M : Mem} (h : BM_isPage_28 w0 M = some q) : ZM G X 28 [] [.int w0] M 0 0 := by
  unfold BM_isPage_28 at h
  obtain ⟨h1, h⟩ := gdN h
  obtain rfl := Option.some.inj h
  exact zz_zret C (of_decide_eq_true h1) E ddM_isPage_28
set_option maxHeartbeats 2000000 in
theorem zBM_isPage_27 {G : GXM} {X : CxM} (hG : GokM G) (C : CoM G X cM_isPage "HomeFreedModel") (N : mLM X = 2) {d : Nat} (hD : dpM X = d) (hd : 1 ≤ d)  {q : Int32 × Mem} (E : EnM G X (some .boolean) (some (.int q.1)) q.2 0 0) {M : Mem} (h : BM_isPage_27 M = some q) : ZM G X 27 [] [] M 0 0 := by
  unfold BM_isPage_27 at h
  refine zz_iconst (v := 0) C ddM_isPage_27 (by decide) ?_
  exact zBM_isPage_28 hG C N hD hd E h
set_option maxHeartbeats 2000000 in
theorem xM_isPage {G : GXM} {l : Launch} (hG : GokM G) (d : Nat) (hd : 1 ≤ d) {v0 : Nat} {v1 : Int32} {M : Mem} {q : Int32 × Mem} (h : fM_isPage v0 v1 M = some q) : ExM G l d 0 0 yM_isPage cM_isPage 2 (some .boolean) [.ref v0, .int v1] M (some (.int q.1)) q.2 := by
  refine ex_of hG (by decide +kernel) (Nat.le_of_ble_eq_true rfl) ?_
  intro X hl C E N hD hn
  show ZM G X 0 [(0, .ref v0), (1, .int v1)] [] M 0 0
  unfold fM_isPage at h
  refine zz_aload_n C 0 ddM_isPage_0 rfl rfl ?_
  obtain ⟨h2, h⟩ := gdN h
  obtain ⟨q1, hq1, h⟩ := bindN h
  refine zz_callV0 (As := []) C ddM_isPage_1 wd_1362 my_M_isArena mv_M_isArena ⟨_, rfl, rfl⟩ (xM_isArena hG (d - 1) (by omega) hq1) (by omega) h2 rfl rfl (Nat.le_of_ble_eq_true rfl) ?_
  refine zz_if_eq (tgt := 27) C ddM_isPage_4 rfl (fun hc => ?_) (fun hc => ?_)
  · replace h := iteT h hc
    refine zz_loc (L1 := []) [] rfl ?_
    exact zBM_isPage_27 hG C N hD hd E h
  · replace h := iteF h hc
    refine zz_iload_n C 1 ddM_isPage_7 rfl rfl ?_
    refine zz_iconst (v := 0) C ddM_isPage_8 (by decide) ?_
    refine zz_aload_n C 0 ddM_isPage_9 rfl rfl ?_
    obtain ⟨h3, h⟩ := gdN h
    obtain ⟨h4, h⟩ := gdN h
    refine zz_getr C ddM_isPage_10 fl_M_19 rfl h3 (of_decide_eq_true h4) ?_
    refine zz_iconst (v := 1) C ddM_isPage_13 (by decide) ?_
    obtain ⟨h5, h⟩ := gdN h
    refine zz_iaload C ddM_isPage_14 h5 ?_
    refine zz_iconst (v := 1) C ddM_isPage_15 (by decide) ?_
    refine zz_isub C ddM_isPage_16 ?_
    obtain ⟨q6, hq6, h⟩ := bindN h
    refine zz_callS0 (As := [.int v1, .int 0, .int ((giM q1.2 (grM q1.2 v0 8) (Int32.toNatClampNeg 1)) - 1)]) C ddM_isPage_17 wd_1289 my_M_in mv_M_in (xM_in hG (d - 1) (by omega) hq6) (by omega) rfl rfl (Nat.le_of_ble_eq_true rfl) ?_
    refine zz_if_eq (tgt := 27) C ddM_isPage_20 rfl (fun hc => ?_) (fun hc => ?_)
    · replace h := iteT h hc
      refine zz_loc (L1 := []) [] rfl ?_
      exact zBM_isPage_27 hG C N hD hd E h
    · replace h := iteF h hc
      refine zz_iconst (v := 1) C ddM_isPage_23 (by decide) ?_
      refine zz_goto (tgt := 28) C ddM_isPage_24 rfl ?_
      refine zz_loc (L1 := []) [] rfl ?_
      exact zBM_isPage_28 hG C N hD hd E h
theorem ddM_of_0 : decode cM_of 0 = .ok (.aload_n 0, 1) := by decide +kernel
theorem ddM_of_1 : decode cM_of 1 = .ok (.getfield 31, 3) := by decide +kernel
theorem ddM_of_4 : decode cM_of 4 = .ok (.sipush 166, 3) := by decide +kernel
theorem ddM_of_7 : decode cM_of 7 = .ok (.iload_n 1, 1) := by decide +kernel
theorem ddM_of_8 : decode cM_of 8 = .ok (.imul, 1) := by decide +kernel
theorem ddM_of_9 : decode cM_of 9 = .ok (.iload_n 2, 1) := by decide +kernel
theorem ddM_of_10 : decode cM_of 10 = .ok (.iadd, 1) := by decide +kernel
theorem ddM_of_11 : decode cM_of 11 = .ok (.iaload, 1) := by decide +kernel
theorem ddM_of_12 : decode cM_of 12 = .ok (.ireturn, 1) := by decide +kernel
set_option maxHeartbeats 2000000 in
theorem xM_of {G : GXM} {l : Launch} (hG : GokM G) (d : Nat) (hd : 0 ≤ d) {v0 : Nat} {v1 : Int32} {v2 : Int32} {M : Mem} {q : Int32 × Mem} (h : fM_of v0 v1 v2 M = some q) : ExM G l d 0 0 yM_of cM_of 3 (some .int) [.ref v0, .int v1, .int v2] M (some (.int q.1)) q.2 := by
  refine ex_of hG (by decide +kernel) (Nat.le_of_ble_eq_true rfl) ?_
  intro X hl C E N hD hn
  show ZM G X 0 [(0, .ref v0), (1, .int v1), (2, .int v2)] [] M 0 0
  unfold fM_of at h
  refine zz_aload_n C 0 ddM_of_0 rfl rfl ?_
  obtain ⟨h1, h⟩ := gdN h
  obtain ⟨h2, h⟩ := gdN h
  refine zz_getr C ddM_of_1 fl_M_31 rfl h1 (of_decide_eq_true h2) ?_
  refine zz_sipush (v := 166) C ddM_of_4 (by decide) ?_
  refine zz_iload_n C 1 ddM_of_7 rfl rfl ?_
  refine zz_imul C ddM_of_8 ?_
  refine zz_iload_n C 2 ddM_of_9 rfl rfl ?_
  refine zz_iadd C ddM_of_10 ?_
  obtain ⟨h3, h⟩ := gdN h
  refine zz_iaload C ddM_of_11 h3 ?_
  obtain rfl := Option.some.inj h
  exact zz_iret C E ddM_of_12
theorem ddM_isOwned_0 : decode cM_isOwned 0 = .ok (.aload_n 0, 1) := by decide +kernel
theorem ddM_isOwned_1 : decode cM_isOwned 1 = .ok (.iload_n 1, 1) := by decide +kernel
theorem ddM_isOwned_2 : decode cM_isOwned 2 = .ok (.iconst 0, 1) := by decide +kernel
theorem ddM_isOwned_3 : decode cM_isOwned 3 = .ok (.invokevirtual 170, 3) := by decide +kernel
theorem ddM_isOwned_6 : decode cM_isOwned 6 = .ok (.iconst 1, 1) := by decide +kernel
theorem ddM_isOwned_7 : decode cM_isOwned 7 = .ok (.if_icmp .eq 13, 3) := by decide +kernel
theorem ddM_isOwned_10 : decode cM_isOwned 10 = .ok (.aload_n 0, 1) := by decide +kernel
theorem ddM_isOwned_11 : decode cM_isOwned 11 = .ok (.iload_n 1, 1) := by decide +kernel
theorem ddM_isOwned_12 : decode cM_isOwned 12 = .ok (.iconst 0, 1) := by decide +kernel
theorem ddM_isOwned_13 : decode cM_isOwned 13 = .ok (.invokevirtual 170, 3) := by decide +kernel
theorem ddM_isOwned_16 : decode cM_isOwned 16 = .ok (.iconst 2, 1) := by decide +kernel
theorem ddM_isOwned_17 : decode cM_isOwned 17 = .ok (.if_icmp .ne 7, 3) := by decide +kernel
theorem ddM_isOwned_20 : decode cM_isOwned 20 = .ok (.iconst 1, 1) := by decide +kernel
theorem ddM_isOwned_21 : decode cM_isOwned 21 = .ok (.goto 4, 3) := by decide +kernel
theorem ddM_isOwned_24 : decode cM_isOwned 24 = .ok (.iconst 0, 1) := by decide +kernel
theorem ddM_isOwned_25 : decode cM_isOwned 25 = .ok (.ireturn, 1) := by decide +kernel
set_option maxHeartbeats 2000000 in
theorem zBM_isOwned_25 {G : GXM} {X : CxM} (hG : GokM G) (C : CoM G X cM_isOwned "HomeFreedModel") (N : mLM X = 2) {d : Nat} (hD : dpM X = d) (hd : 1 ≤ d)  {q : Int32 × Mem} (E : EnM G X (some .boolean) (some (.int q.1)) q.2 0 0) {w0 : Int32} {M : Mem} (h : BM_isOwned_25 w0 M = some q) : ZM G X 25 [] [.int w0] M 0 0 := by
  unfold BM_isOwned_25 at h
  obtain ⟨h1, h⟩ := gdN h
  obtain rfl := Option.some.inj h
  exact zz_zret C (of_decide_eq_true h1) E ddM_isOwned_25
set_option maxHeartbeats 2000000 in
theorem zBM_isOwned_20 {G : GXM} {X : CxM} (hG : GokM G) (C : CoM G X cM_isOwned "HomeFreedModel") (N : mLM X = 2) {d : Nat} (hD : dpM X = d) (hd : 1 ≤ d)  {q : Int32 × Mem} (E : EnM G X (some .boolean) (some (.int q.1)) q.2 0 0) {M : Mem} (h : BM_isOwned_20 M = some q) : ZM G X 20 [] [] M 0 0 := by
  unfold BM_isOwned_20 at h
  refine zz_iconst (v := 1) C ddM_isOwned_20 (by decide) ?_
  refine zz_goto (tgt := 25) C ddM_isOwned_21 rfl ?_
  exact zBM_isOwned_25 hG C N hD hd E h
set_option maxHeartbeats 2000000 in
theorem xM_isOwned {G : GXM} {l : Launch} (hG : GokM G) (d : Nat) (hd : 1 ≤ d) {v0 : Nat} {v1 : Int32} {M : Mem} {q : Int32 × Mem} (h : fM_isOwned v0 v1 M = some q) : ExM G l d 0 0 yM_isOwned cM_isOwned 2 (some .boolean) [.ref v0, .int v1] M (some (.int q.1)) q.2 := by
  refine ex_of hG (by decide +kernel) (Nat.le_of_ble_eq_true rfl) ?_
  intro X hl C E N hD hn
  show ZM G X 0 [(0, .ref v0), (1, .int v1)] [] M 0 0
  unfold fM_isOwned at h
  refine zz_aload_n C 0 ddM_isOwned_0 rfl rfl ?_
  refine zz_iload_n C 1 ddM_isOwned_1 rfl rfl ?_
  refine zz_iconst (v := 0) C ddM_isOwned_2 (by decide) ?_
  obtain ⟨h2, h⟩ := gdN h
  obtain ⟨q1, hq1, h⟩ := bindN h
  refine zz_callV0 (As := [.int v1, .int 0]) C ddM_isOwned_3 wd_1378 my_M_of mv_M_of ⟨_, rfl, rfl⟩ (xM_of hG (d - 1) (by omega) hq1) (by omega) h2 rfl rfl (Nat.le_of_ble_eq_true rfl) ?_
  refine zz_iconst (v := 1) C ddM_isOwned_6 (by decide) ?_
  refine zz_icmp_eq (tgt := 20) C ddM_isOwned_7 rfl (fun hc => ?_) (fun hc => ?_)
  · replace h := iteT h hc
    refine zz_loc (L1 := []) [] rfl ?_
    exact zBM_isOwned_20 hG C N hD hd E h
  · replace h := iteF h hc
    refine zz_aload_n C 0 ddM_isOwned_10 rfl rfl ?_
    refine zz_iload_n C 1 ddM_isOwned_11 rfl rfl ?_
    refine zz_iconst (v := 0) C ddM_isOwned_12 (by decide) ?_
    obtain ⟨h4, h⟩ := gdN h
    obtain ⟨q3, hq3, h⟩ := bindN h
    refine zz_callV0 (As := [.int v1, .int 0]) C ddM_isOwned_13 wd_1378 my_M_of mv_M_of ⟨_, rfl, rfl⟩ (xM_of hG (d - 1) (by omega) hq3) (by omega) h4 rfl rfl (Nat.le_of_ble_eq_true rfl) ?_
    refine zz_iconst (v := 2) C ddM_isOwned_16 (by decide) ?_
    refine zz_icmp_ne (tgt := 24) C ddM_isOwned_17 rfl (fun hc => ?_) (fun hc => ?_)
    · replace h := iteF h hc
      refine zz_iconst (v := 0) C ddM_isOwned_24 (by decide) ?_
      refine zz_loc (L1 := []) [] rfl ?_
      exact zBM_isOwned_25 hG C N hD hd E h
    · replace h := iteT h hc
      refine zz_loc (L1 := []) [] rfl ?_
      exact zBM_isOwned_20 hG C N hD hd E h
theorem ddM_blocksOf_0 : decode cM_blocksOf 0 = .ok (.aload_n 0, 1) := by decide +kernel
theorem ddM_blocksOf_1 : decode cM_blocksOf 1 = .ok (.iload_n 1, 1) := by decide +kernel
theorem ddM_blocksOf_2 : decode cM_blocksOf 2 = .ok (.iconst 0, 1) := by decide +kernel
theorem ddM_blocksOf_3 : decode cM_blocksOf 3 = .ok (.invokevirtual 170, 3) := by decide +kernel
theorem ddM_blocksOf_6 : decode cM_blocksOf 6 = .ok (.ifCond .ne 7, 3) := by decide +kernel
theorem ddM_blocksOf_9 : decode cM_blocksOf 9 = .ok (.iconst 0, 1) := by decide +kernel
theorem ddM_blocksOf_10 : decode cM_blocksOf 10 = .ok (.goto 21, 3) := by decide +kernel
theorem ddM_blocksOf_13 : decode cM_blocksOf 13 = .ok (.aload_n 0, 1) := by decide +kernel
theorem ddM_blocksOf_14 : decode cM_blocksOf 14 = .ok (.getfield 19, 3) := by decide +kernel
theorem ddM_blocksOf_17 : decode cM_blocksOf 17 = .ok (.iconst 2, 1) := by decide +kernel
theorem ddM_blocksOf_18 : decode cM_blocksOf 18 = .ok (.iaload, 1) := by decide +kernel
theorem ddM_blocksOf_19 : decode cM_blocksOf 19 = .ok (.aload_n 0, 1) := by decide +kernel
theorem ddM_blocksOf_20 : decode cM_blocksOf 20 = .ok (.getfield 22, 3) := by decide +kernel
theorem ddM_blocksOf_23 : decode cM_blocksOf 23 = .ok (.aload_n 0, 1) := by decide +kernel
theorem ddM_blocksOf_24 : decode cM_blocksOf 24 = .ok (.iload_n 1, 1) := by decide +kernel
theorem ddM_blocksOf_25 : decode cM_blocksOf 25 = .ok (.iconst 2, 1) := by decide +kernel
theorem ddM_blocksOf_26 : decode cM_blocksOf 26 = .ok (.invokevirtual 170, 3) := by decide +kernel
theorem ddM_blocksOf_29 : decode cM_blocksOf 29 = .ok (.iaload, 1) := by decide +kernel
theorem ddM_blocksOf_30 : decode cM_blocksOf 30 = .ok (.idiv, 1) := by decide +kernel
theorem ddM_blocksOf_31 : decode cM_blocksOf 31 = .ok (.ireturn, 1) := by decide +kernel
set_option maxHeartbeats 2000000 in
theorem zBM_blocksOf_31 {G : GXM} {X : CxM} (hG : GokM G) (C : CoM G X cM_blocksOf "HomeFreedModel") (N : mLM X = 2) {d : Nat} (hD : dpM X = d) (hd : 1 ≤ d)  {q : Int32 × Mem} (E : EnM G X (some .int) (some (.int q.1)) q.2 0 0) {w0 : Int32} {M : Mem} (h : BM_blocksOf_31 w0 M = some q) : ZM G X 31 [] [.int w0] M 0 0 := by
  unfold BM_blocksOf_31 at h
  obtain rfl := Option.some.inj h
  exact zz_iret C E ddM_blocksOf_31
set_option maxHeartbeats 2000000 in
theorem xM_blocksOf {G : GXM} {l : Launch} (hG : GokM G) (d : Nat) (hd : 1 ≤ d) {v0 : Nat} {v1 : Int32} {M : Mem} {q : Int32 × Mem} (h : fM_blocksOf v0 v1 M = some q) : ExM G l d 0 0 yM_blocksOf cM_blocksOf 2 (some .int) [.ref v0, .int v1] M (some (.int q.1)) q.2 := by
  refine ex_of hG (by decide +kernel) (Nat.le_of_ble_eq_true rfl) ?_
  intro X hl C E N hD hn
  show ZM G X 0 [(0, .ref v0), (1, .int v1)] [] M 0 0
  unfold fM_blocksOf at h
  refine zz_aload_n C 0 ddM_blocksOf_0 rfl rfl ?_
  refine zz_iload_n C 1 ddM_blocksOf_1 rfl rfl ?_
  refine zz_iconst (v := 0) C ddM_blocksOf_2 (by decide) ?_
  obtain ⟨h2, h⟩ := gdN h
  obtain ⟨q1, hq1, h⟩ := bindN h
  refine zz_callV0 (As := [.int v1, .int 0]) C ddM_blocksOf_3 wd_1378 my_M_of mv_M_of ⟨_, rfl, rfl⟩ (xM_of hG (d - 1) (by omega) hq1) (by omega) h2 rfl rfl (Nat.le_of_ble_eq_true rfl) ?_
  refine zz_if_ne (tgt := 13) C ddM_blocksOf_6 rfl (fun hc => ?_) (fun hc => ?_)
  · replace h := iteF h hc
    refine zz_aload_n C 0 ddM_blocksOf_13 rfl rfl ?_
    obtain ⟨h3, h⟩ := gdN h
    obtain ⟨h4, h⟩ := gdN h
    refine zz_getr C ddM_blocksOf_14 fl_M_19 rfl h3 (of_decide_eq_true h4) ?_
    refine zz_iconst (v := 2) C ddM_blocksOf_17 (by decide) ?_
    obtain ⟨h5, h⟩ := gdN h
    refine zz_iaload C ddM_blocksOf_18 h5 ?_
    refine zz_aload_n C 0 ddM_blocksOf_19 rfl rfl ?_
    obtain ⟨h6, h⟩ := gdN h
    refine zz_getr C ddM_blocksOf_20 fl_M_22 rfl h3 (of_decide_eq_true h6) ?_
    refine zz_aload_n C 0 ddM_blocksOf_23 rfl rfl ?_
    refine zz_iload_n C 1 ddM_blocksOf_24 rfl rfl ?_
    refine zz_iconst (v := 2) C ddM_blocksOf_25 (by decide) ?_
    obtain ⟨q7, hq7, h⟩ := bindN h
    refine zz_callV0 (As := [.int v1, .int 2]) C ddM_blocksOf_26 wd_1378 my_M_of mv_M_of ⟨_, rfl, rfl⟩ (xM_of hG (d - 1) (by omega) hq7) (by omega) h3 rfl rfl (Nat.le_of_ble_eq_true rfl) ?_
    obtain ⟨h8, h⟩ := gdN h
    refine zz_iaload C ddM_blocksOf_29 h8 ?_
    obtain ⟨h9, h⟩ := gdN h
    refine zz_idiv C ddM_blocksOf_30 (of_decide_eq_true h9) ?_
    refine zz_loc (L1 := []) [] rfl ?_
    exact zBM_blocksOf_31 hG C N hD hd E h
  · replace h := iteT h hc
    refine zz_iconst (v := 0) C ddM_blocksOf_9 (by decide) ?_
    refine zz_goto (tgt := 31) C ddM_blocksOf_10 rfl ?_
    refine zz_loc (L1 := []) [] rfl ?_
    exact zBM_blocksOf_31 hG C N hD hd E h
theorem ddM_listAt_0 : decode cM_listAt 0 = .ok (.sipush 166, 3) := by decide +kernel
theorem ddM_listAt_3 : decode cM_listAt 3 = .ok (.iload_n 0, 1) := by decide +kernel
theorem ddM_listAt_4 : decode cM_listAt 4 = .ok (.imul, 1) := by decide +kernel
theorem ddM_listAt_5 : decode cM_listAt 5 = .ok (.iconst 3, 1) := by decide +kernel
theorem ddM_listAt_6 : decode cM_listAt 6 = .ok (.iadd, 1) := by decide +kernel
theorem ddM_listAt_7 : decode cM_listAt 7 = .ok (.bipush 41, 2) := by decide +kernel
theorem ddM_listAt_9 : decode cM_listAt 9 = .ok (.iload_n 1, 1) := by decide +kernel
theorem ddM_listAt_10 : decode cM_listAt 10 = .ok (.imul, 1) := by decide +kernel
theorem ddM_listAt_11 : decode cM_listAt 11 = .ok (.iadd, 1) := by decide +kernel
theorem ddM_listAt_12 : decode cM_listAt 12 = .ok (.ireturn, 1) := by decide +kernel
set_option maxHeartbeats 2000000 in
theorem xM_listAt {G : GXM} {l : Launch} (hG : GokM G) (d : Nat) (hd : 0 ≤ d) {v0 : Int32} {v1 : Int32} {M : Mem} {q : Int32 × Mem} (h : fM_listAt v0 v1 M = some q) : ExM G l d 0 0 yM_listAt cM_listAt 2 (some .int) [.int v0, .int v1] M (some (.int q.1)) q.2 := by
  refine ex_of hG (by decide +kernel) (Nat.le_of_ble_eq_true rfl) ?_
  intro X hl C E N hD hn
  show ZM G X 0 [(0, .int v0), (1, .int v1)] [] M 0 0
  unfold fM_listAt at h
  refine zz_sipush (v := 166) C ddM_listAt_0 (by decide) ?_
  refine zz_iload_n C 0 ddM_listAt_3 rfl rfl ?_
  refine zz_imul C ddM_listAt_4 ?_
  refine zz_iconst (v := 3) C ddM_listAt_5 (by decide) ?_
  refine zz_iadd C ddM_listAt_6 ?_
  refine zz_bipush (v := 41) C ddM_listAt_7 (by decide) ?_
  refine zz_iload_n C 1 ddM_listAt_9 rfl rfl ?_
  refine zz_imul C ddM_listAt_10 ?_
  refine zz_iadd C ddM_listAt_11 ?_
  obtain rfl := Option.some.inj h
  exact zz_iret C E ddM_listAt_12
theorem ddM_listedOf_0 : decode cM_listedOf 0 = .ok (.aload_n 0, 1) := by decide +kernel
theorem ddM_listedOf_1 : decode cM_listedOf 1 = .ok (.getfield 31, 3) := by decide +kernel
theorem ddM_listedOf_4 : decode cM_listedOf 4 = .ok (.iload_n 1, 1) := by decide +kernel
theorem ddM_listedOf_5 : decode cM_listedOf 5 = .ok (.iconst 0, 1) := by decide +kernel
theorem ddM_listedOf_6 : decode cM_listedOf 6 = .ok (.invokestatic 173, 3) := by decide +kernel
theorem ddM_listedOf_9 : decode cM_listedOf 9 = .ok (.iaload, 1) := by decide +kernel
theorem ddM_listedOf_10 : decode cM_listedOf 10 = .ok (.aload_n 0, 1) := by decide +kernel
theorem ddM_listedOf_11 : decode cM_listedOf 11 = .ok (.getfield 31, 3) := by decide +kernel
theorem ddM_listedOf_14 : decode cM_listedOf 14 = .ok (.iload_n 1, 1) := by decide +kernel
theorem ddM_listedOf_15 : decode cM_listedOf 15 = .ok (.iconst 1, 1) := by decide +kernel
theorem ddM_listedOf_16 : decode cM_listedOf 16 = .ok (.invokestatic 173, 3) := by decide +kernel
theorem ddM_listedOf_19 : decode cM_listedOf 19 = .ok (.iaload, 1) := by decide +kernel
theorem ddM_listedOf_20 : decode cM_listedOf 20 = .ok (.iadd, 1) := by decide +kernel
theorem ddM_listedOf_21 : decode cM_listedOf 21 = .ok (.aload_n 0, 1) := by decide +kernel
theorem ddM_listedOf_22 : decode cM_listedOf 22 = .ok (.getfield 31, 3) := by decide +kernel
theorem ddM_listedOf_25 : decode cM_listedOf 25 = .ok (.iload_n 1, 1) := by decide +kernel
theorem ddM_listedOf_26 : decode cM_listedOf 26 = .ok (.iconst 2, 1) := by decide +kernel
theorem ddM_listedOf_27 : decode cM_listedOf 27 = .ok (.invokestatic 173, 3) := by decide +kernel
theorem ddM_listedOf_30 : decode cM_listedOf 30 = .ok (.iaload, 1) := by decide +kernel
theorem ddM_listedOf_31 : decode cM_listedOf 31 = .ok (.iadd, 1) := by decide +kernel
theorem ddM_listedOf_32 : decode cM_listedOf 32 = .ok (.ireturn, 1) := by decide +kernel
set_option maxHeartbeats 2000000 in
theorem xM_listedOf {G : GXM} {l : Launch} (hG : GokM G) (d : Nat) (hd : 1 ≤ d) {v0 : Nat} {v1 : Int32} {M : Mem} {q : Int32 × Mem} (h : fM_listedOf v0 v1 M = some q) : ExM G l d 0 0 yM_listedOf cM_listedOf 2 (some .int) [.ref v0, .int v1] M (some (.int q.1)) q.2 := by
  refine ex_of hG (by decide +kernel) (Nat.le_of_ble_eq_true rfl) ?_
  intro X hl C E N hD hn
  show ZM G X 0 [(0, .ref v0), (1, .int v1)] [] M 0 0
  unfold fM_listedOf at h
  refine zz_aload_n C 0 ddM_listedOf_0 rfl rfl ?_
  obtain ⟨h1, h⟩ := gdN h
  obtain ⟨h2, h⟩ := gdN h
  refine zz_getr C ddM_listedOf_1 fl_M_31 rfl h1 (of_decide_eq_true h2) ?_
  refine zz_iload_n C 1 ddM_listedOf_4 rfl rfl ?_
  refine zz_iconst (v := 0) C ddM_listedOf_5 (by decide) ?_
  obtain ⟨q3, hq3, h⟩ := bindN h
  refine zz_callS0 (As := [.int v1, .int 0]) C ddM_listedOf_6 wd_1398 my_M_listAt mv_M_listAt (xM_listAt hG (d - 1) (by omega) hq3) (by omega) rfl rfl (Nat.le_of_ble_eq_true rfl) ?_
  obtain ⟨h4, h⟩ := gdN h
  refine zz_iaload C ddM_listedOf_9 h4 ?_
  refine zz_aload_n C 0 ddM_listedOf_10 rfl rfl ?_
  obtain ⟨h5, h⟩ := gdN h
  obtain ⟨h6, h⟩ := gdN h
  refine zz_getr C ddM_listedOf_11 fl_M_31 rfl h5 (of_decide_eq_true h6) ?_
  refine zz_iload_n C 1 ddM_listedOf_14 rfl rfl ?_
  refine zz_iconst (v := 1) C ddM_listedOf_15 (by decide) ?_
  obtain ⟨q7, hq7, h⟩ := bindN h
  refine zz_callS0 (As := [.int v1, .int 1]) C ddM_listedOf_16 wd_1398 my_M_listAt mv_M_listAt (xM_listAt hG (d - 1) (by omega) hq7) (by omega) rfl rfl (Nat.le_of_ble_eq_true rfl) ?_
  obtain ⟨h8, h⟩ := gdN h
  refine zz_iaload C ddM_listedOf_19 h8 ?_
  refine zz_iadd C ddM_listedOf_20 ?_
  refine zz_aload_n C 0 ddM_listedOf_21 rfl rfl ?_
  obtain ⟨h9, h⟩ := gdN h
  obtain ⟨h10, h⟩ := gdN h
  refine zz_getr C ddM_listedOf_22 fl_M_31 rfl h9 (of_decide_eq_true h10) ?_
  refine zz_iload_n C 1 ddM_listedOf_25 rfl rfl ?_
  refine zz_iconst (v := 2) C ddM_listedOf_26 (by decide) ?_
  obtain ⟨q11, hq11, h⟩ := bindN h
  refine zz_callS0 (As := [.int v1, .int 2]) C ddM_listedOf_27 wd_1398 my_M_listAt mv_M_listAt (xM_listAt hG (d - 1) (by omega) hq11) (by omega) rfl rfl (Nat.le_of_ble_eq_true rfl) ?_
  obtain ⟨h12, h⟩ := gdN h
  refine zz_iaload C ddM_listedOf_30 h12 ?_
  refine zz_iadd C ddM_listedOf_31 ?_
  obtain rfl := Option.some.inj h
  exact zz_iret C E ddM_listedOf_32
theorem ddM_usedOf_0 : decode cM_usedOf 0 = .ok (.aload_n 0, 1) := by decide +kernel
theorem ddM_usedOf_1 : decode cM_usedOf 1 = .ok (.iload_n 1, 1) := by decide +kernel
theorem ddM_usedOf_2 : decode cM_usedOf 2 = .ok (.invokevirtual 176, 3) := by decide +kernel
theorem ddM_usedOf_5 : decode cM_usedOf 5 = .ok (.aload_n 0, 1) := by decide +kernel
theorem ddM_usedOf_6 : decode cM_usedOf 6 = .ok (.iload_n 1, 1) := by decide +kernel
theorem ddM_usedOf_7 : decode cM_usedOf 7 = .ok (.invokevirtual 179, 3) := by decide +kernel
theorem ddM_usedOf_10 : decode cM_usedOf 10 = .ok (.isub, 1) := by decide +kernel
theorem ddM_usedOf_11 : decode cM_usedOf 11 = .ok (.ireturn, 1) := by decide +kernel
set_option maxHeartbeats 2000000 in
theorem xM_usedOf {G : GXM} {l : Launch} (hG : GokM G) (d : Nat) (hd : 2 ≤ d) {v0 : Nat} {v1 : Int32} {M : Mem} {q : Int32 × Mem} (h : fM_usedOf v0 v1 M = some q) : ExM G l d 0 0 yM_usedOf cM_usedOf 2 (some .int) [.ref v0, .int v1] M (some (.int q.1)) q.2 := by
  refine ex_of hG (by decide +kernel) (Nat.le_of_ble_eq_true rfl) ?_
  intro X hl C E N hD hn
  show ZM G X 0 [(0, .ref v0), (1, .int v1)] [] M 0 0
  unfold fM_usedOf at h
  refine zz_aload_n C 0 ddM_usedOf_0 rfl rfl ?_
  refine zz_iload_n C 1 ddM_usedOf_1 rfl rfl ?_
  obtain ⟨h2, h⟩ := gdN h
  obtain ⟨q1, hq1, h⟩ := bindN h
  refine zz_callV0 (As := [.int v1]) C ddM_usedOf_2 wd_1390 my_M_blocksOf mv_M_blocksOf ⟨_, rfl, rfl⟩ (xM_blocksOf hG (d - 1) (by omega) hq1) (by omega) h2 rfl rfl (Nat.le_of_ble_eq_true rfl) ?_
  refine zz_aload_n C 0 ddM_usedOf_5 rfl rfl ?_
  refine zz_iload_n C 1 ddM_usedOf_6 rfl rfl ?_
  obtain ⟨h4, h⟩ := gdN h
  obtain ⟨q3, hq3, h⟩ := bindN h
  refine zz_callV0 (As := [.int v1]) C ddM_usedOf_7 wd_1394 my_M_listedOf mv_M_listedOf ⟨_, rfl, rfl⟩ (xM_listedOf hG (d - 1) (by omega) hq3) (by omega) h4 rfl rfl (Nat.le_of_ble_eq_true rfl) ?_
  refine zz_isub C ddM_usedOf_10 ?_
  obtain rfl := Option.some.inj h
  exact zz_iret C E ddM_usedOf_11
theorem ddM_page_0 : decode cM_page 0 = .ok (.aload_n 0, 1) := by decide +kernel
theorem ddM_page_1 : decode cM_page 1 = .ok (.aload_n 0, 1) := by decide +kernel
theorem ddM_page_2 : decode cM_page 2 = .ok (.iload_n 1, 1) := by decide +kernel
theorem ddM_page_3 : decode cM_page 3 = .ok (.invokevirtual 297, 3) := by decide +kernel
theorem ddM_page_6 : decode cM_page 6 = .ok (.ifCond .eq 17, 3) := by decide +kernel
theorem ddM_page_9 : decode cM_page 9 = .ok (.iload_n 2, 1) := by decide +kernel
theorem ddM_page_10 : decode cM_page 10 = .ok (.iconst 0, 1) := by decide +kernel
theorem ddM_page_11 : decode cM_page 11 = .ok (.bipush 6, 2) := by decide +kernel
theorem ddM_page_13 : decode cM_page 13 = .ok (.invokestatic 75, 3) := by decide +kernel
theorem ddM_page_16 : decode cM_page 16 = .ok (.ifCond .eq 7, 3) := by decide +kernel
theorem ddM_page_19 : decode cM_page 19 = .ok (.iconst 0, 1) := by decide +kernel
theorem ddM_page_20 : decode cM_page 20 = .ok (.goto 4, 3) := by decide +kernel
theorem ddM_page_23 : decode cM_page 23 = .ok (.iconst 1, 1) := by decide +kernel
theorem ddM_page_24 : decode cM_page 24 = .ok (.putfield 64, 3) := by decide +kernel
theorem ddM_page_27 : decode cM_page 27 = .ok (.aload_n 0, 1) := by decide +kernel
theorem ddM_page_28 : decode cM_page 28 = .ok (.getfield 64, 3) := by decide +kernel
theorem ddM_page_31 : decode cM_page 31 = .ok (.iconst 1, 1) := by decide +kernel
theorem ddM_page_32 : decode cM_page 32 = .ok (.if_icmp .ne 5, 3) := by decide +kernel
theorem ddM_page_35 : decode cM_page 35 = .ok (.iconst 0, 1) := by decide +kernel
theorem ddM_page_36 : decode cM_page 36 = .ok (.ireturn, 1) := by decide +kernel
theorem ddM_page_37 : decode cM_page 37 = .ok (.aload_n 0, 1) := by decide +kernel
theorem ddM_page_38 : decode cM_page 38 = .ok (.iload_n 1, 1) := by decide +kernel
theorem ddM_page_39 : decode cM_page 39 = .ok (.iconst 0, 1) := by decide +kernel
theorem ddM_page_40 : decode cM_page 40 = .ok (.invokevirtual 170, 3) := by decide +kernel
theorem ddM_page_43 : decode cM_page 43 = .ok (.istore_n 3, 1) := by decide +kernel
theorem ddM_page_44 : decode cM_page 44 = .ok (.iload_n 2, 1) := by decide +kernel
theorem ddM_page_45 : decode cM_page 45 = .ok (.tableswitch 73 0 3 #[31, 33, 52, 67], 31) := by decide +kernel
theorem ddM_page_76 : decode cM_page 76 = .ok (.iload_n 3, 1) := by decide +kernel
theorem ddM_page_77 : decode cM_page 77 = .ok (.ireturn, 1) := by decide +kernel
theorem ddM_page_78 : decode cM_page 78 = .ok (.aload_n 0, 1) := by decide +kernel
theorem ddM_page_79 : decode cM_page 79 = .ok (.iload_n 1, 1) := by decide +kernel
theorem ddM_page_80 : decode cM_page 80 = .ok (.invokevirtual 241, 3) := by decide +kernel
theorem ddM_page_83 : decode cM_page 83 = .ok (.ifCond .eq 12, 3) := by decide +kernel
theorem ddM_page_86 : decode cM_page 86 = .ok (.aload_n 0, 1) := by decide +kernel
theorem ddM_page_87 : decode cM_page 87 = .ok (.iload_n 1, 1) := by decide +kernel
theorem ddM_page_88 : decode cM_page 88 = .ok (.iconst 1, 1) := by decide +kernel
theorem ddM_page_89 : decode cM_page 89 = .ok (.invokevirtual 170, 3) := by decide +kernel
theorem ddM_page_92 : decode cM_page 92 = .ok (.goto 4, 3) := by decide +kernel
theorem ddM_page_95 : decode cM_page 95 = .ok (.iconst (-1), 1) := by decide +kernel
theorem ddM_page_96 : decode cM_page 96 = .ok (.ireturn, 1) := by decide +kernel
theorem ddM_page_97 : decode cM_page 97 = .ok (.iload_n 3, 1) := by decide +kernel
theorem ddM_page_98 : decode cM_page 98 = .ok (.ifCond .ne 7, 3) := by decide +kernel
theorem ddM_page_101 : decode cM_page 101 = .ok (.iconst (-1), 1) := by decide +kernel
theorem ddM_page_102 : decode cM_page 102 = .ok (.goto 9, 3) := by decide +kernel
theorem ddM_page_105 : decode cM_page 105 = .ok (.aload_n 0, 1) := by decide +kernel
theorem ddM_page_106 : decode cM_page 106 = .ok (.iload_n 1, 1) := by decide +kernel
theorem ddM_page_107 : decode cM_page 107 = .ok (.iconst 2, 1) := by decide +kernel
theorem ddM_page_108 : decode cM_page 108 = .ok (.invokevirtual 170, 3) := by decide +kernel
theorem ddM_page_111 : decode cM_page 111 = .ok (.ireturn, 1) := by decide +kernel
theorem ddM_page_112 : decode cM_page 112 = .ok (.aload_n 0, 1) := by decide +kernel
theorem ddM_page_113 : decode cM_page 113 = .ok (.iload_n 1, 1) := by decide +kernel
theorem ddM_page_114 : decode cM_page 114 = .ok (.invokevirtual 201, 3) := by decide +kernel
theorem ddM_page_117 : decode cM_page 117 = .ok (.ireturn, 1) := by decide +kernel
theorem ddM_page_118 : decode cM_page 118 = .ok (.aload_n 0, 1) := by decide +kernel
theorem ddM_page_119 : decode cM_page 119 = .ok (.getfield 31, 3) := by decide +kernel
theorem ddM_page_122 : decode cM_page 122 = .ok (.iload_n 1, 1) := by decide +kernel
theorem ddM_page_123 : decode cM_page 123 = .ok (.iload_n 2, 1) := by decide +kernel
theorem ddM_page_124 : decode cM_page 124 = .ok (.iconst 4, 1) := by decide +kernel
theorem ddM_page_125 : decode cM_page 125 = .ok (.isub, 1) := by decide +kernel
theorem ddM_page_126 : decode cM_page 126 = .ok (.invokestatic 173, 3) := by decide +kernel
theorem ddM_page_129 : decode cM_page 129 = .ok (.iaload, 1) := by decide +kernel
theorem ddM_page_130 : decode cM_page 130 = .ok (.ireturn, 1) := by decide +kernel
set_option maxHeartbeats 2000000 in
theorem zBM_page_111 {G : GXM} {X : CxM} (hG : GokM G) (C : CoM G X cM_page "HomeFreedModel") (N : mLM X = 4) {d : Nat} (hD : dpM X = d) (hd : 3 ≤ d)  {q : Int32 × Mem} (E : EnM G X (some .int) (some (.int q.1)) q.2 0 0) {w0 : Int32} {M : Mem} (h : BM_page_111 w0 M = some q) : ZM G X 111 [] [.int w0] M 0 0 := by
  unfold BM_page_111 at h
  obtain rfl := Option.some.inj h
  exact zz_iret C E ddM_page_111
set_option maxHeartbeats 2000000 in
theorem zBM_page_96 {G : GXM} {X : CxM} (hG : GokM G) (C : CoM G X cM_page "HomeFreedModel") (N : mLM X = 4) {d : Nat} (hD : dpM X = d) (hd : 3 ≤ d)  {q : Int32 × Mem} (E : EnM G X (some .int) (some (.int q.1)) q.2 0 0) {w0 : Int32} {M : Mem} (h : BM_page_96 w0 M = some q) : ZM G X 96 [] [.int w0] M 0 0 := by
  unfold BM_page_96 at h
  obtain rfl := Option.some.inj h
  exact zz_iret C E ddM_page_96
set_option maxHeartbeats 2000000 in
theorem zBM_page_24 {G : GXM} {X : CxM} (hG : GokM G) (C : CoM G X cM_page "HomeFreedModel") (N : mLM X = 4) {d : Nat} (hD : dpM X = d) (hd : 3 ≤ d)  {q : Int32 × Mem} (E : EnM G X (some .int) (some (.int q.1)) q.2 0 0) {v0 : Nat} {v1 : Int32} {v2 : Int32} {w0 : Nat} {w1 : Int32} {M : Mem} (h : BM_page_24 v0 v1 v2 w0 w1 M = some q) : ZM G X 24 [(0, .ref v0), (1, .int v1), (2, .int v2)] [.int w1, .ref w0] M 0 0 := by
  unfold BM_page_24 at h
  obtain ⟨h1, h⟩ := gdN h
  refine zz_puti C ddM_page_24 fl_M_64 rfl rfl rfl h1 ?_
  refine zz_aload_n C 0 ddM_page_27 rfl rfl ?_
  obtain ⟨h2, h⟩ := gdN h
  refine zz_geti C ddM_page_28 fl_M_64 rfl h2 ?_
  refine zz_iconst (v := 1) C ddM_page_31 (by decide) ?_
  refine zz_icmp_ne (tgt := 37) C ddM_page_32 rfl (fun hc => ?_) (fun hc => ?_)
  · replace h := iteF h hc
    refine zz_aload_n C 0 ddM_page_37 rfl rfl ?_
    refine zz_iload_n C 1 ddM_page_38 rfl rfl ?_
    refine zz_iconst (v := 0) C ddM_page_39 (by decide) ?_
    obtain ⟨q3, hq3, h⟩ := bindN h
    refine zz_callV0 (As := [.int v1, .int 0]) C ddM_page_40 wd_1378 my_M_of mv_M_of ⟨_, rfl, rfl⟩ (xM_of hG (d - 1) (by omega) hq3) (by omega) h2 rfl rfl (Nat.le_of_ble_eq_true rfl) ?_
    refine zz_istore_n (L1 := [(3, .int q3.1), (0, .ref v0), (1, .int v1), (2, .int v2)]) C ddM_page_43 rfl N (by decide) rfl ?_
    refine zz_iload_n C 3 ddM_page_44 rfl rfl ?_
    by_cases hs45_0 : v2 = 0
    · replace h := iteT h hs45_0
      rw [hs45_0]
      refine zz_tableIn (tgt := 76) C ddM_page_45 (by decide) (by decide) rfl rfl ?_
      refine zz_iload_n C 0 ddM_page_76 rfl rfl ?_
      obtain rfl := Option.some.inj h
      exact zz_iret C E ddM_page_77
    replace h := iteF h hs45_0
    by_cases hs45_1 : v2 = 1
    · replace h := iteT h hs45_1
      rw [hs45_1]
      refine zz_tableIn (tgt := 78) C ddM_page_45 (by decide) (by decide) rfl rfl ?_
      refine zz_aload_n C 1 ddM_page_78 rfl rfl ?_
      refine zz_iload_n C 2 ddM_page_79 rfl rfl ?_
      obtain ⟨h5, h⟩ := gdN h
      obtain ⟨q4, hq4, h⟩ := bindN h
      refine zz_callV0 (As := [.int v1]) C ddM_page_80 wd_1382 my_M_isOwned mv_M_isOwned ⟨_, rfl, rfl⟩ (xM_isOwned hG (d - 1) (by omega) hq4) (by omega) h5 rfl rfl (Nat.le_of_ble_eq_true rfl) ?_
      refine zz_if_eq (tgt := 95) C ddM_page_83 rfl (fun hc => ?_) (fun hc => ?_)
      · replace h := iteT h hc
        refine zz_iconst (v := (-1)) C ddM_page_95 (by decide) ?_
        refine zz_loc (L1 := []) [] rfl ?_
        exact zBM_page_96 hG C N hD hd E h
      · replace h := iteF h hc
        refine zz_aload_n C 1 ddM_page_86 rfl rfl ?_
        refine zz_iload_n C 2 ddM_page_87 rfl rfl ?_
        refine zz_iconst (v := 1) C ddM_page_88 (by decide) ?_
        obtain ⟨h7, h⟩ := gdN h
        obtain ⟨q6, hq6, h⟩ := bindN h
        refine zz_callV0 (As := [.int v1, .int 1]) C ddM_page_89 wd_1378 my_M_of mv_M_of ⟨_, rfl, rfl⟩ (xM_of hG (d - 1) (by omega) hq6) (by omega) h7 rfl rfl (Nat.le_of_ble_eq_true rfl) ?_
        refine zz_goto (tgt := 96) C ddM_page_92 rfl ?_
        refine zz_loc (L1 := []) [] rfl ?_
        exact zBM_page_96 hG C N hD hd E h
    replace h := iteF h hs45_1
    by_cases hs45_2 : v2 = 2
    · replace h := iteT h hs45_2
      rw [hs45_2]
      refine zz_tableIn (tgt := 97) C ddM_page_45 (by decide) (by decide) rfl rfl ?_
      refine zz_iload_n C 0 ddM_page_97 rfl rfl ?_
      refine zz_if_ne (tgt := 105) C ddM_page_98 rfl (fun hc => ?_) (fun hc => ?_)
      · replace h := iteF h hc
        refine zz_aload_n C 1 ddM_page_105 rfl rfl ?_
        refine zz_iload_n C 2 ddM_page_106 rfl rfl ?_
        refine zz_iconst (v := 2) C ddM_page_107 (by decide) ?_
        obtain ⟨h9, h⟩ := gdN h
        obtain ⟨q8, hq8, h⟩ := bindN h
        refine zz_callV0 (As := [.int v1, .int 2]) C ddM_page_108 wd_1378 my_M_of mv_M_of ⟨_, rfl, rfl⟩ (xM_of hG (d - 1) (by omega) hq8) (by omega) h9 rfl rfl (Nat.le_of_ble_eq_true rfl) ?_
        refine zz_loc (L1 := []) [] rfl ?_
        exact zBM_page_111 hG C N hD hd E h
      · replace h := iteT h hc
        refine zz_iconst (v := (-1)) C ddM_page_101 (by decide) ?_
        refine zz_goto (tgt := 111) C ddM_page_102 rfl ?_
        refine zz_loc (L1 := []) [] rfl ?_
        exact zBM_page_111 hG C N hD hd E h
    replace h := iteF h hs45_2
    by_cases hs45_3 : v2 = 3
    · replace h := iteT h hs45_3
      rw [hs45_3]
      refine zz_tableIn (tgt := 112) C ddM_page_45 (by decide) (by decide) rfl rfl ?_
      refine zz_aload_n C 1 ddM_page_112 rfl rfl ?_
      refine zz_iload_n C 2 ddM_page_113 rfl rfl ?_
      obtain ⟨h11, h⟩ := gdN h
      obtain ⟨q10, hq10, h⟩ := bindN h
      refine zz_callV0 (As := [.int v1]) C ddM_page_114 wd_1386 my_M_usedOf mv_M_usedOf ⟨_, rfl, rfl⟩ (xM_usedOf hG (d - 1) (by omega) hq10) (by omega) h11 rfl rfl (Nat.le_of_ble_eq_true rfl) ?_
      obtain rfl := Option.some.inj h
      exact zz_iret C E ddM_page_117
    replace h := iteF h hs45_3
    have ths45_0 := lv_neT (a := 0) hs45_0 (by decide)
    have ths45_1 := lv_neT (a := 1) hs45_1 (by decide)
    have ths45_2 := lv_neT (a := 2) hs45_2 (by decide)
    have ths45_3 := lv_neT (a := 3) hs45_3 (by decide)
    refine zz_tableOut (tgt := 118) C ddM_page_45 (by omega) rfl ?_
    refine zz_aload_n C 1 ddM_page_118 rfl rfl ?_
    obtain ⟨h12, h⟩ := gdN h
    obtain ⟨h13, h⟩ := gdN h
    refine zz_getr C ddM_page_119 fl_M_31 rfl h12 (of_decide_eq_true h13) ?_
    refine zz_iload_n C 2 ddM_page_122 rfl rfl ?_
    refine zz_iload_n C 3 ddM_page_123 rfl rfl ?_
    refine zz_iconst (v := 4) C ddM_page_124 (by decide) ?_
    refine zz_isub C ddM_page_125 ?_
    obtain ⟨q14, hq14, h⟩ := bindN h
    refine zz_callS0 (As := [.int v1, .int (v2 - 4)]) C ddM_page_126 wd_1398 my_M_listAt mv_M_listAt (xM_listAt hG (d - 1) (by omega) hq14) (by omega) rfl rfl (Nat.le_of_ble_eq_true rfl) ?_
    obtain ⟨h15, h⟩ := gdN h
    refine zz_iaload C ddM_page_129 h15 ?_
    obtain rfl := Option.some.inj h
    exact zz_iret C E ddM_page_130
  · replace h := iteT h hc
    refine zz_iconst (v := 0) C ddM_page_35 (by decide) ?_
    obtain rfl := Option.some.inj h
    exact zz_iret C E ddM_page_36
set_option maxHeartbeats 2000000 in
theorem zBM_page_23 {G : GXM} {X : CxM} (hG : GokM G) (C : CoM G X cM_page "HomeFreedModel") (N : mLM X = 4) {d : Nat} (hD : dpM X = d) (hd : 3 ≤ d)  {q : Int32 × Mem} (E : EnM G X (some .int) (some (.int q.1)) q.2 0 0) {v0 : Nat} {v1 : Int32} {v2 : Int32} {w0 : Nat} {M : Mem} (h : BM_page_23 v0 v1 v2 w0 M = some q) : ZM G X 23 [(0, .ref v0), (1, .int v1), (2, .int v2)] [.ref w0] M 0 0 := by
  unfold BM_page_23 at h
  refine zz_iconst (v := 1) C ddM_page_23 (by decide) ?_
  exact zBM_page_24 hG C N hD hd E h
set_option maxHeartbeats 2000000 in
theorem xM_page {G : GXM} {l : Launch} (hG : GokM G) (d : Nat) (hd : 3 ≤ d) {v0 : Nat} {v1 : Int32} {v2 : Int32} {M : Mem} {q : Int32 × Mem} (h : fM_page v0 v1 v2 M = some q) : ExM G l d 0 0 yM_page cM_page 4 (some .int) [.ref v0, .int v1, .int v2] M (some (.int q.1)) q.2 := by
  refine ex_of hG (by decide +kernel) (Nat.le_of_ble_eq_true rfl) ?_
  intro X hl C E N hD hn
  show ZM G X 0 [(0, .ref v0), (1, .int v1), (2, .int v2)] [] M 0 0
  unfold fM_page at h
  refine zz_aload_n C 0 ddM_page_0 rfl rfl ?_
  refine zz_aload_n C 0 ddM_page_1 rfl rfl ?_
  refine zz_iload_n C 1 ddM_page_2 rfl rfl ?_
  obtain ⟨h2, h⟩ := gdN h
  obtain ⟨q1, hq1, h⟩ := bindN h
  refine zz_callV0 (As := [.int v1]) C ddM_page_3 wd_1374 my_M_isPage mv_M_isPage ⟨_, rfl, rfl⟩ (xM_isPage hG (d - 1) (by omega) hq1) (by omega) h2 rfl rfl (Nat.le_of_ble_eq_true rfl) ?_
  refine zz_if_eq (tgt := 23) C ddM_page_6 rfl (fun hc => ?_) (fun hc => ?_)
  · replace h := iteT h hc
    exact zBM_page_23 hG C N hD hd E h
  · replace h := iteF h hc
    refine zz_iload_n C 2 ddM_page_9 rfl rfl ?_
    refine zz_iconst (v := 0) C ddM_page_10 (by decide) ?_
    refine zz_bipush (v := 6) C ddM_page_11 (by decide) ?_
    obtain ⟨q3, hq3, h⟩ := bindN h
    refine zz_callS0 (As := [.int v2, .int 0, .int 6]) C ddM_page_13 wd_1289 my_M_in mv_M_in (xM_in hG (d - 1) (by omega) hq3) (by omega) rfl rfl (Nat.le_of_ble_eq_true rfl) ?_
    refine zz_if_eq (tgt := 23) C ddM_page_16 rfl (fun hc => ?_) (fun hc => ?_)
    · replace h := iteT h hc
      exact zBM_page_23 hG C N hD hd E h
    · replace h := iteF h hc
      refine zz_iconst (v := 0) C ddM_page_19 (by decide) ?_
      refine zz_goto (tgt := 24) C ddM_page_20 rfl ?_
      exact zBM_page_24 hG C N hD hd E h
theorem ddM_list_0 : decode cM_list 0 = .ok (.aload_n 0, 1) := by decide +kernel
theorem ddM_list_1 : decode cM_list 1 = .ok (.iload_n 1, 1) := by decide +kernel
theorem ddM_list_2 : decode cM_list 2 = .ok (.invokevirtual 297, 3) := by decide +kernel
theorem ddM_list_5 : decode cM_list 5 = .ok (.ifCond .eq 49, 3) := by decide +kernel
theorem ddM_list_8 : decode cM_list 8 = .ok (.iload_n 2, 1) := by decide +kernel
theorem ddM_list_9 : decode cM_list 9 = .ok (.iconst 0, 1) := by decide +kernel
theorem ddM_list_10 : decode cM_list 10 = .ok (.iconst 2, 1) := by decide +kernel
theorem ddM_list_11 : decode cM_list 11 = .ok (.invokestatic 75, 3) := by decide +kernel
theorem ddM_list_14 : decode cM_list 14 = .ok (.ifCond .eq 40, 3) := by decide +kernel
theorem ddM_list_17 : decode cM_list 17 = .ok (.iload_n 3, 1) := by decide +kernel
theorem ddM_list_18 : decode cM_list 18 = .ok (.iconst 0, 1) := by decide +kernel
theorem ddM_list_19 : decode cM_list 19 = .ok (.aload_n 0, 1) := by decide +kernel
theorem ddM_list_20 : decode cM_list 20 = .ok (.getfield 31, 3) := by decide +kernel
theorem ddM_list_23 : decode cM_list 23 = .ok (.iload_n 1, 1) := by decide +kernel
theorem ddM_list_24 : decode cM_list 24 = .ok (.iload_n 2, 1) := by decide +kernel
theorem ddM_list_25 : decode cM_list 25 = .ok (.invokestatic 173, 3) := by decide +kernel
theorem ddM_list_28 : decode cM_list 28 = .ok (.iaload, 1) := by decide +kernel
theorem ddM_list_29 : decode cM_list 29 = .ok (.iconst 1, 1) := by decide +kernel
theorem ddM_list_30 : decode cM_list 30 = .ok (.isub, 1) := by decide +kernel
theorem ddM_list_31 : decode cM_list 31 = .ok (.invokestatic 75, 3) := by decide +kernel
theorem ddM_list_34 : decode cM_list 34 = .ok (.ifCond .eq 20, 3) := by decide +kernel
theorem ddM_list_37 : decode cM_list 37 = .ok (.aload_n 0, 1) := by decide +kernel
theorem ddM_list_38 : decode cM_list 38 = .ok (.getfield 31, 3) := by decide +kernel
theorem ddM_list_41 : decode cM_list 41 = .ok (.iload_n 1, 1) := by decide +kernel
theorem ddM_list_42 : decode cM_list 42 = .ok (.iload_n 2, 1) := by decide +kernel
theorem ddM_list_43 : decode cM_list 43 = .ok (.invokestatic 173, 3) := by decide +kernel
theorem ddM_list_46 : decode cM_list 46 = .ok (.iconst 1, 1) := by decide +kernel
theorem ddM_list_47 : decode cM_list 47 = .ok (.iadd, 1) := by decide +kernel
theorem ddM_list_48 : decode cM_list 48 = .ok (.iload_n 3, 1) := by decide +kernel
theorem ddM_list_49 : decode cM_list 49 = .ok (.iadd, 1) := by decide +kernel
theorem ddM_list_50 : decode cM_list 50 = .ok (.iaload, 1) := by decide +kernel
theorem ddM_list_51 : decode cM_list 51 = .ok (.goto 4, 3) := by decide +kernel
theorem ddM_list_54 : decode cM_list 54 = .ok (.iconst (-1), 1) := by decide +kernel
theorem ddM_list_55 : decode cM_list 55 = .ok (.ireturn, 1) := by decide +kernel
set_option maxHeartbeats 2000000 in
theorem zBM_list_55 {G : GXM} {X : CxM} (hG : GokM G) (C : CoM G X cM_list "HomeFreedModel") (N : mLM X = 4) {d : Nat} (hD : dpM X = d) (hd : 2 ≤ d)  {q : Int32 × Mem} (E : EnM G X (some .int) (some (.int q.1)) q.2 0 0) {w0 : Int32} {M : Mem} (h : BM_list_55 w0 M = some q) : ZM G X 55 [] [.int w0] M 0 0 := by
  unfold BM_list_55 at h
  obtain rfl := Option.some.inj h
  exact zz_iret C E ddM_list_55
set_option maxHeartbeats 2000000 in
theorem zBM_list_54 {G : GXM} {X : CxM} (hG : GokM G) (C : CoM G X cM_list "HomeFreedModel") (N : mLM X = 4) {d : Nat} (hD : dpM X = d) (hd : 2 ≤ d)  {q : Int32 × Mem} (E : EnM G X (some .int) (some (.int q.1)) q.2 0 0) {M : Mem} (h : BM_list_54 M = some q) : ZM G X 54 [] [] M 0 0 := by
  unfold BM_list_54 at h
  refine zz_iconst (v := (-1)) C ddM_list_54 (by decide) ?_
  exact zBM_list_55 hG C N hD hd E h
set_option maxHeartbeats 2000000 in
theorem xM_list {G : GXM} {l : Launch} (hG : GokM G) (d : Nat) (hd : 2 ≤ d) {v0 : Nat} {v1 : Int32} {v2 : Int32} {v3 : Int32} {M : Mem} {q : Int32 × Mem} (h : fM_list v0 v1 v2 v3 M = some q) : ExM G l d 0 0 yM_list cM_list 4 (some .int) [.ref v0, .int v1, .int v2, .int v3] M (some (.int q.1)) q.2 := by
  refine ex_of hG (by decide +kernel) (Nat.le_of_ble_eq_true rfl) ?_
  intro X hl C E N hD hn
  show ZM G X 0 [(0, .ref v0), (1, .int v1), (2, .int v2), (3, .int v3)] [] M 0 0
  unfold fM_list at h
  refine zz_aload_n C 0 ddM_list_0 rfl rfl ?_
  refine zz_iload_n C 1 ddM_list_1 rfl rfl ?_
  obtain ⟨h2, h⟩ := gdN h
  obtain ⟨q1, hq1, h⟩ := bindN h
  refine zz_callV0 (As := [.int v1]) C ddM_list_2 wd_1374 my_M_isPage mv_M_isPage ⟨_, rfl, rfl⟩ (xM_isPage hG (d - 1) (by omega) hq1) (by omega) h2 rfl rfl (Nat.le_of_ble_eq_true rfl) ?_
  refine zz_if_eq (tgt := 54) C ddM_list_5 rfl (fun hc => ?_) (fun hc => ?_)
  · replace h := iteT h hc
    refine zz_loc (L1 := []) [] rfl ?_
    exact zBM_list_54 hG C N hD hd E h
  · replace h := iteF h hc
    refine zz_iload_n C 2 ddM_list_8 rfl rfl ?_
    refine zz_iconst (v := 0) C ddM_list_9 (by decide) ?_
    refine zz_iconst (v := 2) C ddM_list_10 (by decide) ?_
    obtain ⟨q3, hq3, h⟩ := bindN h
    refine zz_callS0 (As := [.int v2, .int 0, .int 2]) C ddM_list_11 wd_1289 my_M_in mv_M_in (xM_in hG (d - 1) (by omega) hq3) (by omega) rfl rfl (Nat.le_of_ble_eq_true rfl) ?_
    refine zz_if_eq (tgt := 54) C ddM_list_14 rfl (fun hc => ?_) (fun hc => ?_)
    · replace h := iteT h hc
      refine zz_loc (L1 := []) [] rfl ?_
      exact zBM_list_54 hG C N hD hd E h
    · replace h := iteF h hc
      refine zz_iload_n C 3 ddM_list_17 rfl rfl ?_
      refine zz_iconst (v := 0) C ddM_list_18 (by decide) ?_
      refine zz_aload_n C 0 ddM_list_19 rfl rfl ?_
      obtain ⟨h4, h⟩ := gdN h
      obtain ⟨h5, h⟩ := gdN h
      refine zz_getr C ddM_list_20 fl_M_31 rfl h4 (of_decide_eq_true h5) ?_
      refine zz_iload_n C 1 ddM_list_23 rfl rfl ?_
      refine zz_iload_n C 2 ddM_list_24 rfl rfl ?_
      obtain ⟨q6, hq6, h⟩ := bindN h
      refine zz_callS0 (As := [.int v1, .int v2]) C ddM_list_25 wd_1398 my_M_listAt mv_M_listAt (xM_listAt hG (d - 1) (by omega) hq6) (by omega) rfl rfl (Nat.le_of_ble_eq_true rfl) ?_
      obtain ⟨h7, h⟩ := gdN h
      refine zz_iaload C ddM_list_28 h7 ?_
      refine zz_iconst (v := 1) C ddM_list_29 (by decide) ?_
      refine zz_isub C ddM_list_30 ?_
      obtain ⟨q8, hq8, h⟩ := bindN h
      refine zz_callS0 (As := [.int v3, .int 0, .int ((giM q6.2 (grM q3.2 v0 15) (Int32.toNatClampNeg q6.1)) - 1)]) C ddM_list_31 wd_1289 my_M_in mv_M_in (xM_in hG (d - 1) (by omega) hq8) (by omega) rfl rfl (Nat.le_of_ble_eq_true rfl) ?_
      refine zz_if_eq (tgt := 54) C ddM_list_34 rfl (fun hc => ?_) (fun hc => ?_)
      · replace h := iteT h hc
        refine zz_loc (L1 := []) [] rfl ?_
        exact zBM_list_54 hG C N hD hd E h
      · replace h := iteF h hc
        refine zz_aload_n C 0 ddM_list_37 rfl rfl ?_
        obtain ⟨h9, h⟩ := gdN h
        obtain ⟨h10, h⟩ := gdN h
        refine zz_getr C ddM_list_38 fl_M_31 rfl h9 (of_decide_eq_true h10) ?_
        refine zz_iload_n C 1 ddM_list_41 rfl rfl ?_
        refine zz_iload_n C 2 ddM_list_42 rfl rfl ?_
        obtain ⟨q11, hq11, h⟩ := bindN h
        refine zz_callS0 (As := [.int v1, .int v2]) C ddM_list_43 wd_1398 my_M_listAt mv_M_listAt (xM_listAt hG (d - 1) (by omega) hq11) (by omega) rfl rfl (Nat.le_of_ble_eq_true rfl) ?_
        refine zz_iconst (v := 1) C ddM_list_46 (by decide) ?_
        refine zz_iadd C ddM_list_47 ?_
        refine zz_iload_n C 3 ddM_list_48 rfl rfl ?_
        refine zz_iadd C ddM_list_49 ?_
        obtain ⟨h12, h⟩ := gdN h
        refine zz_iaload C ddM_list_50 h12 ?_
        refine zz_goto (tgt := 55) C ddM_list_51 rfl ?_
        refine zz_loc (L1 := []) [] rfl ?_
        exact zBM_list_55 hG C N hD hd E h
theorem ddM_isThread_0 : decode cM_isThread 0 = .ok (.aload_n 0, 1) := by decide +kernel
theorem ddM_isThread_1 : decode cM_isThread 1 = .ok (.invokevirtual 160, 3) := by decide +kernel
theorem ddM_isThread_4 : decode cM_isThread 4 = .ok (.ifCond .eq 23, 3) := by decide +kernel
theorem ddM_isThread_7 : decode cM_isThread 7 = .ok (.iload_n 1, 1) := by decide +kernel
theorem ddM_isThread_8 : decode cM_isThread 8 = .ok (.iconst 0, 1) := by decide +kernel
theorem ddM_isThread_9 : decode cM_isThread 9 = .ok (.aload_n 0, 1) := by decide +kernel
theorem ddM_isThread_10 : decode cM_isThread 10 = .ok (.getfield 19, 3) := by decide +kernel
theorem ddM_isThread_13 : decode cM_isThread 13 = .ok (.iconst 0, 1) := by decide +kernel
theorem ddM_isThread_14 : decode cM_isThread 14 = .ok (.iaload, 1) := by decide +kernel
theorem ddM_isThread_15 : decode cM_isThread 15 = .ok (.iconst 1, 1) := by decide +kernel
theorem ddM_isThread_16 : decode cM_isThread 16 = .ok (.isub, 1) := by decide +kernel
theorem ddM_isThread_17 : decode cM_isThread 17 = .ok (.invokestatic 75, 3) := by decide +kernel
theorem ddM_isThread_20 : decode cM_isThread 20 = .ok (.ifCond .eq 7, 3) := by decide +kernel
theorem ddM_isThread_23 : decode cM_isThread 23 = .ok (.iconst 1, 1) := by decide +kernel
theorem ddM_isThread_24 : decode cM_isThread 24 = .ok (.goto 4, 3) := by decide +kernel
theorem ddM_isThread_27 : decode cM_isThread 27 = .ok (.iconst 0, 1) := by decide +kernel
theorem ddM_isThread_28 : decode cM_isThread 28 = .ok (.ireturn, 1) := by decide +kernel
set_option maxHeartbeats 2000000 in
theorem zBM_isThread_28 {G : GXM} {X : CxM} (hG : GokM G) (C : CoM G X cM_isThread "HomeFreedModel") (N : mLM X = 2) {d : Nat} (hD : dpM X = d) (hd : 1 ≤ d)  {q : Int32 × Mem} (E : EnM G X (some .boolean) (some (.int q.1)) q.2 0 0) {w0 : Int32} {M : Mem} (h : BM_isThread_28 w0 M = some q) : ZM G X 28 [] [.int w0] M 0 0 := by
  unfold BM_isThread_28 at h
  obtain ⟨h1, h⟩ := gdN h
  obtain rfl := Option.some.inj h
  exact zz_zret C (of_decide_eq_true h1) E ddM_isThread_28
set_option maxHeartbeats 2000000 in
theorem zBM_isThread_27 {G : GXM} {X : CxM} (hG : GokM G) (C : CoM G X cM_isThread "HomeFreedModel") (N : mLM X = 2) {d : Nat} (hD : dpM X = d) (hd : 1 ≤ d)  {q : Int32 × Mem} (E : EnM G X (some .boolean) (some (.int q.1)) q.2 0 0) {M : Mem} (h : BM_isThread_27 M = some q) : ZM G X 27 [] [] M 0 0 := by
  unfold BM_isThread_27 at h
  refine zz_iconst (v := 0) C ddM_isThread_27 (by decide) ?_
  exact zBM_isThread_28 hG C N hD hd E h
set_option maxHeartbeats 2000000 in
theorem xM_isThread {G : GXM} {l : Launch} (hG : GokM G) (d : Nat) (hd : 1 ≤ d) {v0 : Nat} {v1 : Int32} {M : Mem} {q : Int32 × Mem} (h : fM_isThread v0 v1 M = some q) : ExM G l d 0 0 yM_isThread cM_isThread 2 (some .boolean) [.ref v0, .int v1] M (some (.int q.1)) q.2 := by
  refine ex_of hG (by decide +kernel) (Nat.le_of_ble_eq_true rfl) ?_
  intro X hl C E N hD hn
  show ZM G X 0 [(0, .ref v0), (1, .int v1)] [] M 0 0
  unfold fM_isThread at h
  refine zz_aload_n C 0 ddM_isThread_0 rfl rfl ?_
  obtain ⟨h2, h⟩ := gdN h
  obtain ⟨q1, hq1, h⟩ := bindN h
  refine zz_callV0 (As := []) C ddM_isThread_1 wd_1362 my_M_isArena mv_M_isArena ⟨_, rfl, rfl⟩ (xM_isArena hG (d - 1) (by omega) hq1) (by omega) h2 rfl rfl (Nat.le_of_ble_eq_true rfl) ?_
  refine zz_if_eq (tgt := 27) C ddM_isThread_4 rfl (fun hc => ?_) (fun hc => ?_)
  · replace h := iteT h hc
    refine zz_loc (L1 := []) [] rfl ?_
    exact zBM_isThread_27 hG C N hD hd E h
  · replace h := iteF h hc
    refine zz_iload_n C 1 ddM_isThread_7 rfl rfl ?_
    refine zz_iconst (v := 0) C ddM_isThread_8 (by decide) ?_
    refine zz_aload_n C 0 ddM_isThread_9 rfl rfl ?_
    obtain ⟨h3, h⟩ := gdN h
    obtain ⟨h4, h⟩ := gdN h
    refine zz_getr C ddM_isThread_10 fl_M_19 rfl h3 (of_decide_eq_true h4) ?_
    refine zz_iconst (v := 0) C ddM_isThread_13 (by decide) ?_
    obtain ⟨h5, h⟩ := gdN h
    refine zz_iaload C ddM_isThread_14 h5 ?_
    refine zz_iconst (v := 1) C ddM_isThread_15 (by decide) ?_
    refine zz_isub C ddM_isThread_16 ?_
    obtain ⟨q6, hq6, h⟩ := bindN h
    refine zz_callS0 (As := [.int v1, .int 0, .int ((giM q1.2 (grM q1.2 v0 8) (Int32.toNatClampNeg 0)) - 1)]) C ddM_isThread_17 wd_1289 my_M_in mv_M_in (xM_in hG (d - 1) (by omega) hq6) (by omega) rfl rfl (Nat.le_of_ble_eq_true rfl) ?_
    refine zz_if_eq (tgt := 27) C ddM_isThread_20 rfl (fun hc => ?_) (fun hc => ?_)
    · replace h := iteT h hc
      refine zz_loc (L1 := []) [] rfl ?_
      exact zBM_isThread_27 hG C N hD hd E h
    · replace h := iteF h hc
      refine zz_iconst (v := 1) C ddM_isThread_23 (by decide) ?_
      refine zz_goto (tgt := 28) C ddM_isThread_24 rfl ?_
      refine zz_loc (L1 := []) [] rfl ?_
      exact zBM_isThread_28 hG C N hD hd E h
theorem ddM_isOf_0 : decode cM_isOf 0 = .ok (.aload_n 0, 1) := by decide +kernel
theorem ddM_isOf_1 : decode cM_isOf 1 = .ok (.iload_n 1, 1) := by decide +kernel
theorem ddM_isOf_2 : decode cM_isOf 2 = .ok (.invokevirtual 241, 3) := by decide +kernel
theorem ddM_isOf_5 : decode cM_isOf 5 = .ok (.ifCond .eq 17, 3) := by decide +kernel
theorem ddM_isOf_8 : decode cM_isOf 8 = .ok (.aload_n 0, 1) := by decide +kernel
theorem ddM_isOf_9 : decode cM_isOf 9 = .ok (.iload_n 1, 1) := by decide +kernel
theorem ddM_isOf_10 : decode cM_isOf 10 = .ok (.iconst 1, 1) := by decide +kernel
theorem ddM_isOf_11 : decode cM_isOf 11 = .ok (.invokevirtual 170, 3) := by decide +kernel
theorem ddM_isOf_14 : decode cM_isOf 14 = .ok (.iload_n 2, 1) := by decide +kernel
theorem ddM_isOf_15 : decode cM_isOf 15 = .ok (.if_icmp .ne 7, 3) := by decide +kernel
theorem ddM_isOf_18 : decode cM_isOf 18 = .ok (.iconst 1, 1) := by decide +kernel
theorem ddM_isOf_19 : decode cM_isOf 19 = .ok (.goto 4, 3) := by decide +kernel
theorem ddM_isOf_22 : decode cM_isOf 22 = .ok (.iconst 0, 1) := by decide +kernel
theorem ddM_isOf_23 : decode cM_isOf 23 = .ok (.ireturn, 1) := by decide +kernel
set_option maxHeartbeats 2000000 in
theorem zBM_isOf_23 {G : GXM} {X : CxM} (hG : GokM G) (C : CoM G X cM_isOf "HomeFreedModel") (N : mLM X = 3) {d : Nat} (hD : dpM X = d) (hd : 2 ≤ d)  {q : Int32 × Mem} (E : EnM G X (some .boolean) (some (.int q.1)) q.2 0 0) {w0 : Int32} {M : Mem} (h : BM_isOf_23 w0 M = some q) : ZM G X 23 [] [.int w0] M 0 0 := by
  unfold BM_isOf_23 at h
  obtain ⟨h1, h⟩ := gdN h
  obtain rfl := Option.some.inj h
  exact zz_zret C (of_decide_eq_true h1) E ddM_isOf_23
set_option maxHeartbeats 2000000 in
theorem zBM_isOf_22 {G : GXM} {X : CxM} (hG : GokM G) (C : CoM G X cM_isOf "HomeFreedModel") (N : mLM X = 3) {d : Nat} (hD : dpM X = d) (hd : 2 ≤ d)  {q : Int32 × Mem} (E : EnM G X (some .boolean) (some (.int q.1)) q.2 0 0) {M : Mem} (h : BM_isOf_22 M = some q) : ZM G X 22 [] [] M 0 0 := by
  unfold BM_isOf_22 at h
  refine zz_iconst (v := 0) C ddM_isOf_22 (by decide) ?_
  exact zBM_isOf_23 hG C N hD hd E h
set_option maxHeartbeats 2000000 in
theorem xM_isOf {G : GXM} {l : Launch} (hG : GokM G) (d : Nat) (hd : 2 ≤ d) {v0 : Nat} {v1 : Int32} {v2 : Int32} {M : Mem} {q : Int32 × Mem} (h : fM_isOf v0 v1 v2 M = some q) : ExM G l d 0 0 yM_isOf cM_isOf 3 (some .boolean) [.ref v0, .int v1, .int v2] M (some (.int q.1)) q.2 := by
  refine ex_of hG (by decide +kernel) (Nat.le_of_ble_eq_true rfl) ?_
  intro X hl C E N hD hn
  show ZM G X 0 [(0, .ref v0), (1, .int v1), (2, .int v2)] [] M 0 0
  unfold fM_isOf at h
  refine zz_aload_n C 0 ddM_isOf_0 rfl rfl ?_
  refine zz_iload_n C 1 ddM_isOf_1 rfl rfl ?_
  obtain ⟨h2, h⟩ := gdN h
  obtain ⟨q1, hq1, h⟩ := bindN h
  refine zz_callV0 (As := [.int v1]) C ddM_isOf_2 wd_1382 my_M_isOwned mv_M_isOwned ⟨_, rfl, rfl⟩ (xM_isOwned hG (d - 1) (by omega) hq1) (by omega) h2 rfl rfl (Nat.le_of_ble_eq_true rfl) ?_
  refine zz_if_eq (tgt := 22) C ddM_isOf_5 rfl (fun hc => ?_) (fun hc => ?_)
  · replace h := iteT h hc
    refine zz_loc (L1 := []) [] rfl ?_
    exact zBM_isOf_22 hG C N hD hd E h
  · replace h := iteF h hc
    refine zz_aload_n C 0 ddM_isOf_8 rfl rfl ?_
    refine zz_iload_n C 1 ddM_isOf_9 rfl rfl ?_
    refine zz_iconst (v := 1) C ddM_isOf_10 (by decide) ?_
    obtain ⟨h4, h⟩ := gdN h
    obtain ⟨q3, hq3, h⟩ := bindN h
    refine zz_callV0 (As := [.int v1, .int 1]) C ddM_isOf_11 wd_1378 my_M_of mv_M_of ⟨_, rfl, rfl⟩ (xM_of hG (d - 1) (by omega) hq3) (by omega) h4 rfl rfl (Nat.le_of_ble_eq_true rfl) ?_
    refine zz_iload_n C 2 ddM_isOf_14 rfl rfl ?_
    refine zz_icmp_ne (tgt := 22) C ddM_isOf_15 rfl (fun hc => ?_) (fun hc => ?_)
    · replace h := iteF h hc
      refine zz_loc (L1 := []) [] rfl ?_
      exact zBM_isOf_22 hG C N hD hd E h
    · replace h := iteT h hc
      refine zz_iconst (v := 1) C ddM_isOf_18 (by decide) ?_
      refine zz_goto (tgt := 23) C ddM_isOf_19 rfl ?_
      refine zz_loc (L1 := []) [] rfl ?_
      exact zBM_isOf_23 hG C N hD hd E h
theorem ddM_ownedBy_0 : decode cM_ownedBy 0 = .ok (.iconst 0, 1) := by decide +kernel
theorem ddM_ownedBy_1 : decode cM_ownedBy 1 = .ok (.istore_n 2, 1) := by decide +kernel
theorem ddM_ownedBy_2 : decode cM_ownedBy 2 = .ok (.iconst 0, 1) := by decide +kernel
theorem ddM_ownedBy_3 : decode cM_ownedBy 3 = .ok (.istore_n 3, 1) := by decide +kernel
theorem ddM_ownedBy_4 : decode cM_ownedBy 4 = .ok (.iload_n 3, 1) := by decide +kernel
theorem ddM_ownedBy_5 : decode cM_ownedBy 5 = .ok (.aload_n 0, 1) := by decide +kernel
theorem ddM_ownedBy_6 : decode cM_ownedBy 6 = .ok (.getfield 19, 3) := by decide +kernel
theorem ddM_ownedBy_9 : decode cM_ownedBy 9 = .ok (.iconst 1, 1) := by decide +kernel
theorem ddM_ownedBy_10 : decode cM_ownedBy 10 = .ok (.iaload, 1) := by decide +kernel
theorem ddM_ownedBy_11 : decode cM_ownedBy 11 = .ok (.if_icmp .ge 26, 3) := by decide +kernel
theorem ddM_ownedBy_14 : decode cM_ownedBy 14 = .ok (.iload_n 2, 1) := by decide +kernel
theorem ddM_ownedBy_15 : decode cM_ownedBy 15 = .ok (.aload_n 0, 1) := by decide +kernel
theorem ddM_ownedBy_16 : decode cM_ownedBy 16 = .ok (.iload_n 3, 1) := by decide +kernel
theorem ddM_ownedBy_17 : decode cM_ownedBy 17 = .ok (.iload_n 1, 1) := by decide +kernel
theorem ddM_ownedBy_18 : decode cM_ownedBy 18 = .ok (.invokevirtual 253, 3) := by decide +kernel
theorem ddM_ownedBy_21 : decode cM_ownedBy 21 = .ok (.ifCond .eq 7, 3) := by decide +kernel
theorem ddM_ownedBy_24 : decode cM_ownedBy 24 = .ok (.iconst 1, 1) := by decide +kernel
theorem ddM_ownedBy_25 : decode cM_ownedBy 25 = .ok (.goto 4, 3) := by decide +kernel
theorem ddM_ownedBy_28 : decode cM_ownedBy 28 = .ok (.iconst 0, 1) := by decide +kernel
theorem ddM_ownedBy_29 : decode cM_ownedBy 29 = .ok (.iadd, 1) := by decide +kernel
theorem ddM_ownedBy_30 : decode cM_ownedBy 30 = .ok (.istore_n 2, 1) := by decide +kernel
theorem ddM_ownedBy_31 : decode cM_ownedBy 31 = .ok (.iinc 3 1, 3) := by decide +kernel
theorem ddM_ownedBy_34 : decode cM_ownedBy 34 = .ok (.goto (-30), 3) := by decide +kernel
theorem ddM_ownedBy_37 : decode cM_ownedBy 37 = .ok (.iload_n 2, 1) := by decide +kernel
theorem ddM_ownedBy_38 : decode cM_ownedBy 38 = .ok (.ireturn, 1) := by decide +kernel
set_option maxHeartbeats 2000000 in
theorem zBM_ownedBy_29 {G : GXM} {X : CxM} (hG : GokM G) (C : CoM G X cM_ownedBy "HomeFreedModel") (N : mLM X = 4) {d : Nat} (hD : dpM X = d) (hd : 3 ≤ d) {v0 : Nat} {v1 : Int32} {K : Nat → Int32 → Int32 → Int32 → Mem → Option ((Int32 × Mem))} {q : (Int32 × Mem)} (hK : ∀ (v2 : Int32) (v3 : Int32) (M : Mem), K v0 v1 v2 v3 M = some q → ZM G X 4 [(0, .ref v0), (1, .int v1), (2, .int v2), (3, .int v3)] [] M 0 0) (hr : ∀ r : Int32 × Mem, q =  r → EnM G X (some .int) (some (.int r.1)) r.2 0 0) {v3 : Int32} {w0 : Int32} {w1 : Int32} {M : Mem} (h : BM_ownedBy_29 K v0 v1 v3 w0 w1 M = some q) : ZM G X 29 [(0, .ref v0), (1, .int v1), (3, .int v3)] [.int w1, .int w0] M 0 0 := by
  unfold BM_ownedBy_29 at h
  refine zz_iadd C ddM_ownedBy_29 ?_
  refine zz_istore_n (L1 := [(2, .int (w0 + w1)), (0, .ref v0), (1, .int v1), (3, .int v3)]) C ddM_ownedBy_30 rfl N (by decide) rfl ?_
  refine zz_iinc (v := v3 + 1) (L1 := [(3, .int (v3 + 1)), (2, .int (w0 + w1)), (0, .ref v0), (1, .int v1)]) C 3 ddM_ownedBy_31 rfl rfl N (by decide) rfl ?_
  refine zz_goto (tgt := 4) C ddM_ownedBy_34 rfl ?_
  refine zz_loc (L1 := [(0, .ref v0), (1, .int v1), (2, .int (w0 + w1)), (3, .int (v3 + 1))]) [2, 3, 1, 0] rfl ?_
  exact hK _ _ _ h
set_option maxHeartbeats 2000000 in
theorem zBM_ownedBy_4 {G : GXM} {X : CxM} (hG : GokM G) (C : CoM G X cM_ownedBy "HomeFreedModel") (N : mLM X = 4) {d : Nat} (hD : dpM X = d) (hd : 3 ≤ d) {v0 : Nat} {v1 : Int32} {K : Nat → Int32 → Int32 → Int32 → Mem → Option ((Int32 × Mem))} {q : (Int32 × Mem)} (hK : ∀ (v2 : Int32) (v3 : Int32) (M : Mem), K v0 v1 v2 v3 M = some q → ZM G X 4 [(0, .ref v0), (1, .int v1), (2, .int v2), (3, .int v3)] [] M 0 0) (hr : ∀ r : Int32 × Mem, q =  r → EnM G X (some .int) (some (.int r.1)) r.2 0 0) {v2 : Int32} {v3 : Int32} {M : Mem} (h : BM_ownedBy_4 K v0 v1 v2 v3 M = some q) : ZM G X 4 [(0, .ref v0), (1, .int v1), (2, .int v2), (3, .int v3)] [] M 0 0 := by
  unfold BM_ownedBy_4 at h
  refine zz_iload_n C 3 ddM_ownedBy_4 rfl rfl ?_
  refine zz_aload_n C 0 ddM_ownedBy_5 rfl rfl ?_
  obtain ⟨h1, h⟩ := gdN h
  obtain ⟨h2, h⟩ := gdN h
  refine zz_getr C ddM_ownedBy_6 fl_M_19 rfl h1 (of_decide_eq_true h2) ?_
  refine zz_iconst (v := 1) C ddM_ownedBy_9 (by decide) ?_
  obtain ⟨h3, h⟩ := gdN h
  refine zz_iaload C ddM_ownedBy_10 h3 ?_
  refine zz_icmp_ge (tgt := 37) C ddM_ownedBy_11 rfl (fun hc => ?_) (fun hc => ?_)
  · replace h := iteT h hc
    refine zz_iload_n C 2 ddM_ownedBy_37 rfl rfl ?_
    exact zz_iret C (hr _ (Option.some.inj h).symm) ddM_ownedBy_38
  · replace h := iteF h hc
    refine zz_iload_n C 2 ddM_ownedBy_14 rfl rfl ?_
    refine zz_aload_n C 0 ddM_ownedBy_15 rfl rfl ?_
    refine zz_iload_n C 3 ddM_ownedBy_16 rfl rfl ?_
    refine zz_iload_n C 1 ddM_ownedBy_17 rfl rfl ?_
    obtain ⟨q4, hq4, h⟩ := bindN h
    refine zz_callV0 (As := [.int v3, .int v1]) C ddM_ownedBy_18 wd_1417 my_M_isOf mv_M_isOf ⟨_, rfl, rfl⟩ (xM_isOf hG (d - 1) (by omega) hq4) (by omega) h1 rfl rfl (Nat.le_of_ble_eq_true rfl) ?_
    refine zz_if_eq (tgt := 28) C ddM_ownedBy_21 rfl (fun hc => ?_) (fun hc => ?_)
    · replace h := iteT h hc
      refine zz_iconst (v := 0) C ddM_ownedBy_28 (by decide) ?_
      refine zz_loc (L1 := [(0, .ref v0), (1, .int v1), (3, .int v3)]) [0, 1, 3] rfl ?_
      exact zBM_ownedBy_29 hG C N hD hd hK hr h
    · replace h := iteF h hc
      refine zz_iconst (v := 1) C ddM_ownedBy_24 (by decide) ?_
      refine zz_goto (tgt := 29) C ddM_ownedBy_25 rfl ?_
      refine zz_loc (L1 := [(0, .ref v0), (1, .int v1), (3, .int v3)]) [0, 1, 3] rfl ?_
      exact zBM_ownedBy_29 hG C N hD hd hK hr h
set_option maxHeartbeats 2000000 in
theorem zLM_ownedBy_4 {G : GXM} {X : CxM} (hG : GokM G) (C : CoM G X cM_ownedBy "HomeFreedModel") (N : mLM X = 4) {d : Nat} (hD : dpM X = d) (hd : 3 ≤ d) {v0 : Nat} {v1 : Int32} {q : (Int32 × Mem)} : ∀ (f : Nat) (v2 : Int32) (v3 : Int32) (M : Mem), LM_ownedBy_4 f v0 v1 v2 v3 M = some q → (hr : ∀ r : Int32 × Mem, q =  r → EnM G X (some .int) (some (.int r.1)) r.2 0 0) → ZM G X 4 [(0, .ref v0), (1, .int v1), (2, .int v2), (3, .int v3)] [] M 0 0 := by
  intro f
  induction f with
  | zero => intro v2 v3 M h; cases h
  | succ f ih =>
    intro v2 v3 M h hr
    exact zBM_ownedBy_4 hG C N hD hd (K := LM_ownedBy_4 f) (q := q) (fun v2 v3 M h => ih v2 v3 M h hr) hr h
set_option maxHeartbeats 2000000 in
theorem xM_ownedBy {G : GXM} {l : Launch} (hG : GokM G) (d : Nat) (hd : 3 ≤ d) {v0 : Nat} {v1 : Int32} {M : Mem} {q : Int32 × Mem} (h : fM_ownedBy v0 v1 M = some q) : ExM G l d 0 0 yM_ownedBy cM_ownedBy 4 (some .int) [.ref v0, .int v1] M (some (.int q.1)) q.2 := by
  refine ex_of hG (by decide +kernel) (Nat.le_of_ble_eq_true rfl) ?_
  intro X hl C E N hD hn
  show ZM G X 0 [(0, .ref v0), (1, .int v1)] [] M 0 0
  unfold fM_ownedBy at h
  refine zz_iconst (v := 0) C ddM_ownedBy_0 (by decide) ?_
  refine zz_istore_n (L1 := [(2, .int 0), (0, .ref v0), (1, .int v1)]) C ddM_ownedBy_1 rfl N (by decide) rfl ?_
  refine zz_iconst (v := 0) C ddM_ownedBy_2 (by decide) ?_
  refine zz_istore_n (L1 := [(3, .int 0), (2, .int 0), (0, .ref v0), (1, .int v1)]) C ddM_ownedBy_3 rfl N (by decide) rfl ?_
  refine zz_loc (L1 := [(0, .ref v0), (1, .int v1), (2, .int 0), (3, .int 0)]) [2, 3, 1, 0] rfl ?_
  obtain ⟨q1, hq1, h⟩ := bindN h
  refine zLM_ownedBy_4 hG C N hD hd 1000000 _ _ _ hq1 ?_
  · intro r2 eq1; replace eq1 := eq1.symm; subst eq1
    obtain rfl := Option.some.inj h
    exact E
theorem ddM_boxAt_0 : decode cM_boxAt 0 = .ok (.sipush 3064, 3) := by decide +kernel
theorem ddM_boxAt_3 : decode cM_boxAt 3 = .ok (.bipush 10, 2) := by decide +kernel
theorem ddM_boxAt_5 : decode cM_boxAt 5 = .ok (.bipush 16, 2) := by decide +kernel
theorem ddM_boxAt_7 : decode cM_boxAt 7 = .ok (.iload_n 0, 1) := by decide +kernel
theorem ddM_boxAt_8 : decode cM_boxAt 8 = .ok (.imul, 1) := by decide +kernel
theorem ddM_boxAt_9 : decode cM_boxAt 9 = .ok (.iload_n 1, 1) := by decide +kernel
theorem ddM_boxAt_10 : decode cM_boxAt 10 = .ok (.iadd, 1) := by decide +kernel
theorem ddM_boxAt_11 : decode cM_boxAt 11 = .ok (.imul, 1) := by decide +kernel
theorem ddM_boxAt_12 : decode cM_boxAt 12 = .ok (.iadd, 1) := by decide +kernel
theorem ddM_boxAt_13 : decode cM_boxAt 13 = .ok (.ireturn, 1) := by decide +kernel
set_option maxHeartbeats 2000000 in
theorem xM_boxAt {G : GXM} {l : Launch} (hG : GokM G) (d : Nat) (hd : 0 ≤ d) {v0 : Int32} {v1 : Int32} {M : Mem} {q : Int32 × Mem} (h : fM_boxAt v0 v1 M = some q) : ExM G l d 0 0 yM_boxAt cM_boxAt 2 (some .int) [.int v0, .int v1] M (some (.int q.1)) q.2 := by
  refine ex_of hG (by decide +kernel) (Nat.le_of_ble_eq_true rfl) ?_
  intro X hl C E N hD hn
  show ZM G X 0 [(0, .int v0), (1, .int v1)] [] M 0 0
  unfold fM_boxAt at h
  refine zz_sipush (v := 3064) C ddM_boxAt_0 (by decide) ?_
  refine zz_bipush (v := 10) C ddM_boxAt_3 (by decide) ?_
  refine zz_bipush (v := 16) C ddM_boxAt_5 (by decide) ?_
  refine zz_iload_n C 0 ddM_boxAt_7 rfl rfl ?_
  refine zz_imul C ddM_boxAt_8 ?_
  refine zz_iload_n C 1 ddM_boxAt_9 rfl rfl ?_
  refine zz_iadd C ddM_boxAt_10 ?_
  refine zz_imul C ddM_boxAt_11 ?_
  refine zz_iadd C ddM_boxAt_12 ?_
  obtain rfl := Option.some.inj h
  exact zz_iret C E ddM_boxAt_13
theorem ddM_boxedBy_0 : decode cM_boxedBy 0 = .ok (.iconst 0, 1) := by decide +kernel
theorem ddM_boxedBy_1 : decode cM_boxedBy 1 = .ok (.istore_n 2, 1) := by decide +kernel
theorem ddM_boxedBy_2 : decode cM_boxedBy 2 = .ok (.iconst 0, 1) := by decide +kernel
theorem ddM_boxedBy_3 : decode cM_boxedBy 3 = .ok (.istore_n 3, 1) := by decide +kernel
theorem ddM_boxedBy_4 : decode cM_boxedBy 4 = .ok (.iload_n 3, 1) := by decide +kernel
theorem ddM_boxedBy_5 : decode cM_boxedBy 5 = .ok (.aload_n 0, 1) := by decide +kernel
theorem ddM_boxedBy_6 : decode cM_boxedBy 6 = .ok (.getfield 19, 3) := by decide +kernel
theorem ddM_boxedBy_9 : decode cM_boxedBy 9 = .ok (.iconst 1, 1) := by decide +kernel
theorem ddM_boxedBy_10 : decode cM_boxedBy 10 = .ok (.iaload, 1) := by decide +kernel
theorem ddM_boxedBy_11 : decode cM_boxedBy 11 = .ok (.if_icmp .ge 22, 3) := by decide +kernel
theorem ddM_boxedBy_14 : decode cM_boxedBy 14 = .ok (.iload_n 2, 1) := by decide +kernel
theorem ddM_boxedBy_15 : decode cM_boxedBy 15 = .ok (.aload_n 0, 1) := by decide +kernel
theorem ddM_boxedBy_16 : decode cM_boxedBy 16 = .ok (.getfield 31, 3) := by decide +kernel
theorem ddM_boxedBy_19 : decode cM_boxedBy 19 = .ok (.iload_n 1, 1) := by decide +kernel
theorem ddM_boxedBy_20 : decode cM_boxedBy 20 = .ok (.iload_n 3, 1) := by decide +kernel
theorem ddM_boxedBy_21 : decode cM_boxedBy 21 = .ok (.invokestatic 238, 3) := by decide +kernel
theorem ddM_boxedBy_24 : decode cM_boxedBy 24 = .ok (.iaload, 1) := by decide +kernel
theorem ddM_boxedBy_25 : decode cM_boxedBy 25 = .ok (.iadd, 1) := by decide +kernel
theorem ddM_boxedBy_26 : decode cM_boxedBy 26 = .ok (.istore_n 2, 1) := by decide +kernel
theorem ddM_boxedBy_27 : decode cM_boxedBy 27 = .ok (.iinc 3 1, 3) := by decide +kernel
theorem ddM_boxedBy_30 : decode cM_boxedBy 30 = .ok (.goto (-26), 3) := by decide +kernel
theorem ddM_boxedBy_33 : decode cM_boxedBy 33 = .ok (.iload_n 2, 1) := by decide +kernel
theorem ddM_boxedBy_34 : decode cM_boxedBy 34 = .ok (.ireturn, 1) := by decide +kernel
set_option maxHeartbeats 2000000 in
theorem zBM_boxedBy_4 {G : GXM} {X : CxM} (hG : GokM G) (C : CoM G X cM_boxedBy "HomeFreedModel") (N : mLM X = 4) {d : Nat} (hD : dpM X = d) (hd : 1 ≤ d) {v0 : Nat} {v1 : Int32} {K : Nat → Int32 → Int32 → Int32 → Mem → Option ((Int32 × Mem))} {q : (Int32 × Mem)} (hK : ∀ (v2 : Int32) (v3 : Int32) (M : Mem), K v0 v1 v2 v3 M = some q → ZM G X 4 [(0, .ref v0), (1, .int v1), (2, .int v2), (3, .int v3)] [] M 0 0) (hr : ∀ r : Int32 × Mem, q =  r → EnM G X (some .int) (some (.int r.1)) r.2 0 0) {v2 : Int32} {v3 : Int32} {M : Mem} (h : BM_boxedBy_4 K v0 v1 v2 v3 M = some q) : ZM G X 4 [(0, .ref v0), (1, .int v1), (2, .int v2), (3, .int v3)] [] M 0 0 := by
  unfold BM_boxedBy_4 at h
  refine zz_iload_n C 3 ddM_boxedBy_4 rfl rfl ?_
  refine zz_aload_n C 0 ddM_boxedBy_5 rfl rfl ?_
  obtain ⟨h1, h⟩ := gdN h
  obtain ⟨h2, h⟩ := gdN h
  refine zz_getr C ddM_boxedBy_6 fl_M_19 rfl h1 (of_decide_eq_true h2) ?_
  refine zz_iconst (v := 1) C ddM_boxedBy_9 (by decide) ?_
  obtain ⟨h3, h⟩ := gdN h
  refine zz_iaload C ddM_boxedBy_10 h3 ?_
  refine zz_icmp_ge (tgt := 33) C ddM_boxedBy_11 rfl (fun hc => ?_) (fun hc => ?_)
  · replace h := iteT h hc
    refine zz_iload_n C 2 ddM_boxedBy_33 rfl rfl ?_
    exact zz_iret C (hr _ (Option.some.inj h).symm) ddM_boxedBy_34
  · replace h := iteF h hc
    refine zz_iload_n C 2 ddM_boxedBy_14 rfl rfl ?_
    refine zz_aload_n C 0 ddM_boxedBy_15 rfl rfl ?_
    obtain ⟨h4, h⟩ := gdN h
    refine zz_getr C ddM_boxedBy_16 fl_M_31 rfl h1 (of_decide_eq_true h4) ?_
    refine zz_iload_n C 1 ddM_boxedBy_19 rfl rfl ?_
    refine zz_iload_n C 3 ddM_boxedBy_20 rfl rfl ?_
    obtain ⟨q5, hq5, h⟩ := bindN h
    refine zz_callS0 (As := [.int v1, .int v3]) C ddM_boxedBy_21 wd_1425 my_M_boxAt mv_M_boxAt (xM_boxAt hG (d - 1) (by omega) hq5) (by omega) rfl rfl (Nat.le_of_ble_eq_true rfl) ?_
    obtain ⟨h6, h⟩ := gdN h
    refine zz_iaload C ddM_boxedBy_24 h6 ?_
    refine zz_iadd C ddM_boxedBy_25 ?_
    refine zz_istore_n (L1 := [(2, .int (v2 + (giM q5.2 (grM M v0 15) (Int32.toNatClampNeg q5.1)))), (0, .ref v0), (1, .int v1), (3, .int v3)]) C ddM_boxedBy_26 rfl N (by decide) rfl ?_
    refine zz_iinc (v := v3 + 1) (L1 := [(3, .int (v3 + 1)), (2, .int (v2 + (giM q5.2 (grM M v0 15) (Int32.toNatClampNeg q5.1)))), (0, .ref v0), (1, .int v1)]) C 3 ddM_boxedBy_27 rfl rfl N (by decide) rfl ?_
    refine zz_goto (tgt := 4) C ddM_boxedBy_30 rfl ?_
    refine zz_loc (L1 := [(0, .ref v0), (1, .int v1), (2, .int (v2 + (giM q5.2 (grM M v0 15) (Int32.toNatClampNeg q5.1)))), (3, .int (v3 + 1))]) [2, 3, 1, 0] rfl ?_
    exact hK _ _ _ h
set_option maxHeartbeats 2000000 in
theorem zLM_boxedBy_4 {G : GXM} {X : CxM} (hG : GokM G) (C : CoM G X cM_boxedBy "HomeFreedModel") (N : mLM X = 4) {d : Nat} (hD : dpM X = d) (hd : 1 ≤ d) {v0 : Nat} {v1 : Int32} {q : (Int32 × Mem)} : ∀ (f : Nat) (v2 : Int32) (v3 : Int32) (M : Mem), LM_boxedBy_4 f v0 v1 v2 v3 M = some q → (hr : ∀ r : Int32 × Mem, q =  r → EnM G X (some .int) (some (.int r.1)) r.2 0 0) → ZM G X 4 [(0, .ref v0), (1, .int v1), (2, .int v2), (3, .int v3)] [] M 0 0 := by
  intro f
  induction f with
  | zero => intro v2 v3 M h; cases h
  | succ f ih =>
    intro v2 v3 M h hr
    exact zBM_boxedBy_4 hG C N hD hd (K := LM_boxedBy_4 f) (q := q) (fun v2 v3 M h => ih v2 v3 M h hr) hr h
set_option maxHeartbeats 2000000 in
theorem xM_boxedBy {G : GXM} {l : Launch} (hG : GokM G) (d : Nat) (hd : 1 ≤ d) {v0 : Nat} {v1 : Int32} {M : Mem} {q : Int32 × Mem} (h : fM_boxedBy v0 v1 M = some q) : ExM G l d 0 0 yM_boxedBy cM_boxedBy 4 (some .int) [.ref v0, .int v1] M (some (.int q.1)) q.2 := by
  refine ex_of hG (by decide +kernel) (Nat.le_of_ble_eq_true rfl) ?_
  intro X hl C E N hD hn
  show ZM G X 0 [(0, .ref v0), (1, .int v1)] [] M 0 0
  unfold fM_boxedBy at h
  refine zz_iconst (v := 0) C ddM_boxedBy_0 (by decide) ?_
  refine zz_istore_n (L1 := [(2, .int 0), (0, .ref v0), (1, .int v1)]) C ddM_boxedBy_1 rfl N (by decide) rfl ?_
  refine zz_iconst (v := 0) C ddM_boxedBy_2 (by decide) ?_
  refine zz_istore_n (L1 := [(3, .int 0), (2, .int 0), (0, .ref v0), (1, .int v1)]) C ddM_boxedBy_3 rfl N (by decide) rfl ?_
  refine zz_loc (L1 := [(0, .ref v0), (1, .int v1), (2, .int 0), (3, .int 0)]) [2, 3, 1, 0] rfl ?_
  obtain ⟨q1, hq1, h⟩ := bindN h
  refine zLM_boxedBy_4 hG C N hD hd 1000000 _ _ _ hq1 ?_
  · intro r2 eq1; replace eq1 := eq1.symm; subst eq1
    obtain rfl := Option.some.inj h
    exact E
theorem ddM_thread_0 : decode cM_thread 0 = .ok (.aload_n 0, 1) := by decide +kernel
theorem ddM_thread_1 : decode cM_thread 1 = .ok (.iload_n 1, 1) := by decide +kernel
theorem ddM_thread_2 : decode cM_thread 2 = .ok (.invokevirtual 163, 3) := by decide +kernel
theorem ddM_thread_5 : decode cM_thread 5 = .ok (.ifCond .eq 12, 3) := by decide +kernel
theorem ddM_thread_8 : decode cM_thread 8 = .ok (.iload_n 2, 1) := by decide +kernel
theorem ddM_thread_9 : decode cM_thread 9 = .ok (.iconst 0, 1) := by decide +kernel
theorem ddM_thread_10 : decode cM_thread 10 = .ok (.iconst 3, 1) := by decide +kernel
theorem ddM_thread_11 : decode cM_thread 11 = .ok (.invokestatic 75, 3) := by decide +kernel
theorem ddM_thread_14 : decode cM_thread 14 = .ok (.ifCond .ne 5, 3) := by decide +kernel
theorem ddM_thread_17 : decode cM_thread 17 = .ok (.iconst (-1), 1) := by decide +kernel
theorem ddM_thread_18 : decode cM_thread 18 = .ok (.ireturn, 1) := by decide +kernel
theorem ddM_thread_19 : decode cM_thread 19 = .ok (.iload_n 2, 1) := by decide +kernel
theorem ddM_thread_20 : decode cM_thread 20 = .ok (.tableswitch 56 0 2 #[28, 39, 45], 28) := by decide +kernel
theorem ddM_thread_48 : decode cM_thread 48 = .ok (.aload_n 0, 1) := by decide +kernel
theorem ddM_thread_49 : decode cM_thread 49 = .ok (.getfield 31, 3) := by decide +kernel
theorem ddM_thread_52 : decode cM_thread 52 = .ok (.sipush 3704, 3) := by decide +kernel
theorem ddM_thread_55 : decode cM_thread 55 = .ok (.iload_n 1, 1) := by decide +kernel
theorem ddM_thread_56 : decode cM_thread 56 = .ok (.iadd, 1) := by decide +kernel
theorem ddM_thread_57 : decode cM_thread 57 = .ok (.iaload, 1) := by decide +kernel
theorem ddM_thread_58 : decode cM_thread 58 = .ok (.ireturn, 1) := by decide +kernel
theorem ddM_thread_59 : decode cM_thread 59 = .ok (.aload_n 0, 1) := by decide +kernel
theorem ddM_thread_60 : decode cM_thread 60 = .ok (.iload_n 1, 1) := by decide +kernel
theorem ddM_thread_61 : decode cM_thread 61 = .ok (.invokevirtual 300, 3) := by decide +kernel
theorem ddM_thread_64 : decode cM_thread 64 = .ok (.ireturn, 1) := by decide +kernel
theorem ddM_thread_65 : decode cM_thread 65 = .ok (.aload_n 0, 1) := by decide +kernel
theorem ddM_thread_66 : decode cM_thread 66 = .ok (.getfield 31, 3) := by decide +kernel
theorem ddM_thread_69 : decode cM_thread 69 = .ok (.sipush 3708, 3) := by decide +kernel
theorem ddM_thread_72 : decode cM_thread 72 = .ok (.iload_n 1, 1) := by decide +kernel
theorem ddM_thread_73 : decode cM_thread 73 = .ok (.iadd, 1) := by decide +kernel
theorem ddM_thread_74 : decode cM_thread 74 = .ok (.iaload, 1) := by decide +kernel
theorem ddM_thread_75 : decode cM_thread 75 = .ok (.ireturn, 1) := by decide +kernel
theorem ddM_thread_76 : decode cM_thread 76 = .ok (.aload_n 0, 1) := by decide +kernel
theorem ddM_thread_77 : decode cM_thread 77 = .ok (.iload_n 1, 1) := by decide +kernel
theorem ddM_thread_78 : decode cM_thread 78 = .ok (.invokevirtual 303, 3) := by decide +kernel
theorem ddM_thread_81 : decode cM_thread 81 = .ok (.ireturn, 1) := by decide +kernel
set_option maxHeartbeats 2000000 in
theorem zBM_thread_17 {G : GXM} {X : CxM} (hG : GokM G) (C : CoM G X cM_thread "HomeFreedModel") (N : mLM X = 3) {d : Nat} (hD : dpM X = d) (hd : 4 ≤ d)  {q : Int32 × Mem} (E : EnM G X (some .int) (some (.int q.1)) q.2 0 0) {M : Mem} (h : BM_thread_17 M = some q) : ZM G X 17 [] [] M 0 0 := by
  unfold BM_thread_17 at h
  refine zz_iconst (v := (-1)) C ddM_thread_17 (by decide) ?_
  obtain rfl := Option.some.inj h
  exact zz_iret C E ddM_thread_18
set_option maxHeartbeats 2000000 in
theorem xM_thread {G : GXM} {l : Launch} (hG : GokM G) (d : Nat) (hd : 4 ≤ d) {v0 : Nat} {v1 : Int32} {v2 : Int32} {M : Mem} {q : Int32 × Mem} (h : fM_thread v0 v1 v2 M = some q) : ExM G l d 0 0 yM_thread cM_thread 3 (some .int) [.ref v0, .int v1, .int v2] M (some (.int q.1)) q.2 := by
  refine ex_of hG (by decide +kernel) (Nat.le_of_ble_eq_true rfl) ?_
  intro X hl C E N hD hn
  show ZM G X 0 [(0, .ref v0), (1, .int v1), (2, .int v2)] [] M 0 0
  unfold fM_thread at h
  refine zz_aload_n C 0 ddM_thread_0 rfl rfl ?_
  refine zz_iload_n C 1 ddM_thread_1 rfl rfl ?_
  obtain ⟨h2, h⟩ := gdN h
  obtain ⟨q1, hq1, h⟩ := bindN h
  refine zz_callV0 (As := [.int v1]) C ddM_thread_2 wd_1409 my_M_isThread mv_M_isThread ⟨_, rfl, rfl⟩ (xM_isThread hG (d - 1) (by omega) hq1) (by omega) h2 rfl rfl (Nat.le_of_ble_eq_true rfl) ?_
  refine zz_if_eq (tgt := 17) C ddM_thread_5 rfl (fun hc => ?_) (fun hc => ?_)
  · replace h := iteT h hc
    refine zz_loc (L1 := []) [] rfl ?_
    exact zBM_thread_17 hG C N hD hd E h
  · replace h := iteF h hc
    refine zz_iload_n C 2 ddM_thread_8 rfl rfl ?_
    refine zz_iconst (v := 0) C ddM_thread_9 (by decide) ?_
    refine zz_iconst (v := 3) C ddM_thread_10 (by decide) ?_
    obtain ⟨q3, hq3, h⟩ := bindN h
    refine zz_callS0 (As := [.int v2, .int 0, .int 3]) C ddM_thread_11 wd_1289 my_M_in mv_M_in (xM_in hG (d - 1) (by omega) hq3) (by omega) rfl rfl (Nat.le_of_ble_eq_true rfl) ?_
    refine zz_if_ne (tgt := 19) C ddM_thread_14 rfl (fun hc => ?_) (fun hc => ?_)
    · replace h := iteF h hc
      refine zz_iload_n C 2 ddM_thread_19 rfl rfl ?_
      by_cases hs20_0 : v2 = 0
      · replace h := iteT h hs20_0
        rw [hs20_0]
        refine zz_tableIn (tgt := 48) C ddM_thread_20 (by decide) (by decide) rfl rfl ?_
        refine zz_aload_n C 0 ddM_thread_48 rfl rfl ?_
        obtain ⟨h4, h⟩ := gdN h
        obtain ⟨h5, h⟩ := gdN h
        refine zz_getr C ddM_thread_49 fl_M_31 rfl h4 (of_decide_eq_true h5) ?_
        refine zz_sipush (v := 3704) C ddM_thread_52 (by decide) ?_
        refine zz_iload_n C 1 ddM_thread_55 rfl rfl ?_
        refine zz_iadd C ddM_thread_56 ?_
        obtain ⟨h6, h⟩ := gdN h
        refine zz_iaload C ddM_thread_57 h6 ?_
        obtain rfl := Option.some.inj h
        exact zz_iret C E ddM_thread_58
      replace h := iteF h hs20_0
      by_cases hs20_1 : v2 = 1
      · replace h := iteT h hs20_1
        rw [hs20_1]
        refine zz_tableIn (tgt := 59) C ddM_thread_20 (by decide) (by decide) rfl rfl ?_
        refine zz_aload_n C 0 ddM_thread_59 rfl rfl ?_
        refine zz_iload_n C 1 ddM_thread_60 rfl rfl ?_
        obtain ⟨h8, h⟩ := gdN h
        obtain ⟨q7, hq7, h⟩ := bindN h
        refine zz_callV0 (As := [.int v1]) C ddM_thread_61 wd_1413 my_M_ownedBy mv_M_ownedBy ⟨_, rfl, rfl⟩ (xM_ownedBy hG (d - 1) (by omega) hq7) (by omega) h8 rfl rfl (Nat.le_of_ble_eq_true rfl) ?_
        obtain rfl := Option.some.inj h
        exact zz_iret C E ddM_thread_64
      replace h := iteF h hs20_1
      by_cases hs20_2 : v2 = 2
      · replace h := iteT h hs20_2
        rw [hs20_2]
        refine zz_tableIn (tgt := 65) C ddM_thread_20 (by decide) (by decide) rfl rfl ?_
        refine zz_aload_n C 0 ddM_thread_65 rfl rfl ?_
        obtain ⟨h9, h⟩ := gdN h
        obtain ⟨h10, h⟩ := gdN h
        refine zz_getr C ddM_thread_66 fl_M_31 rfl h9 (of_decide_eq_true h10) ?_
        refine zz_sipush (v := 3708) C ddM_thread_69 (by decide) ?_
        refine zz_iload_n C 1 ddM_thread_72 rfl rfl ?_
        refine zz_iadd C ddM_thread_73 ?_
        obtain ⟨h11, h⟩ := gdN h
        refine zz_iaload C ddM_thread_74 h11 ?_
        obtain rfl := Option.some.inj h
        exact zz_iret C E ddM_thread_75
      replace h := iteF h hs20_2
      have ths20_0 := lv_neT (a := 0) hs20_0 (by decide)
      have ths20_1 := lv_neT (a := 1) hs20_1 (by decide)
      have ths20_2 := lv_neT (a := 2) hs20_2 (by decide)
      refine zz_tableOut (tgt := 76) C ddM_thread_20 (by omega) rfl ?_
      refine zz_aload_n C 0 ddM_thread_76 rfl rfl ?_
      refine zz_iload_n C 1 ddM_thread_77 rfl rfl ?_
      obtain ⟨h13, h⟩ := gdN h
      obtain ⟨q12, hq12, h⟩ := bindN h
      refine zz_callV0 (As := [.int v1]) C ddM_thread_78 wd_1421 my_M_boxedBy mv_M_boxedBy ⟨_, rfl, rfl⟩ (xM_boxedBy hG (d - 1) (by omega) hq12) (by omega) h13 rfl rfl (Nat.le_of_ble_eq_true rfl) ?_
      obtain rfl := Option.some.inj h
      exact zz_iret C E ddM_thread_81
    · replace h := iteT h hc
      refine zz_loc (L1 := []) [] rfl ?_
      exact zBM_thread_17 hG C N hD hd E h
theorem ddM_queueAt_0 : decode cM_queueAt 0 = .ok (.sipush 2656, 3) := by decide +kernel
theorem ddM_queueAt_3 : decode cM_queueAt 3 = .ok (.bipush 17, 2) := by decide +kernel
theorem ddM_queueAt_5 : decode cM_queueAt 5 = .ok (.bipush 6, 2) := by decide +kernel
theorem ddM_queueAt_7 : decode cM_queueAt 7 = .ok (.iload_n 0, 1) := by decide +kernel
theorem ddM_queueAt_8 : decode cM_queueAt 8 = .ok (.imul, 1) := by decide +kernel
theorem ddM_queueAt_9 : decode cM_queueAt 9 = .ok (.iload_n 1, 1) := by decide +kernel
theorem ddM_queueAt_10 : decode cM_queueAt 10 = .ok (.iadd, 1) := by decide +kernel
theorem ddM_queueAt_11 : decode cM_queueAt 11 = .ok (.imul, 1) := by decide +kernel
theorem ddM_queueAt_12 : decode cM_queueAt 12 = .ok (.iadd, 1) := by decide +kernel
theorem ddM_queueAt_13 : decode cM_queueAt 13 = .ok (.ireturn, 1) := by decide +kernel
set_option maxHeartbeats 2000000 in
theorem xM_queueAt {G : GXM} {l : Launch} (hG : GokM G) (d : Nat) (hd : 0 ≤ d) {v0 : Int32} {v1 : Int32} {M : Mem} {q : Int32 × Mem} (h : fM_queueAt v0 v1 M = some q) : ExM G l d 0 0 yM_queueAt cM_queueAt 2 (some .int) [.int v0, .int v1] M (some (.int q.1)) q.2 := by
  refine ex_of hG (by decide +kernel) (Nat.le_of_ble_eq_true rfl) ?_
  intro X hl C E N hD hn
  show ZM G X 0 [(0, .int v0), (1, .int v1)] [] M 0 0
  unfold fM_queueAt at h
  refine zz_sipush (v := 2656) C ddM_queueAt_0 (by decide) ?_
  refine zz_bipush (v := 17) C ddM_queueAt_3 (by decide) ?_
  refine zz_bipush (v := 6) C ddM_queueAt_5 (by decide) ?_
  refine zz_iload_n C 0 ddM_queueAt_7 rfl rfl ?_
  refine zz_imul C ddM_queueAt_8 ?_
  refine zz_iload_n C 1 ddM_queueAt_9 rfl rfl ?_
  refine zz_iadd C ddM_queueAt_10 ?_
  refine zz_imul C ddM_queueAt_11 ?_
  refine zz_iadd C ddM_queueAt_12 ?_
  obtain rfl := Option.some.inj h
  exact zz_iret C E ddM_queueAt_13
theorem ddM_queue_0 : decode cM_queue 0 = .ok (.aload_n 0, 1) := by decide +kernel
theorem ddM_queue_1 : decode cM_queue 1 = .ok (.iload_n 1, 1) := by decide +kernel
theorem ddM_queue_2 : decode cM_queue 2 = .ok (.invokevirtual 163, 3) := by decide +kernel
theorem ddM_queue_5 : decode cM_queue 5 = .ok (.ifCond .eq 54, 3) := by decide +kernel
theorem ddM_queue_8 : decode cM_queue 8 = .ok (.iload_n 2, 1) := by decide +kernel
theorem ddM_queue_9 : decode cM_queue 9 = .ok (.iconst 0, 1) := by decide +kernel
theorem ddM_queue_10 : decode cM_queue 10 = .ok (.aload_n 0, 1) := by decide +kernel
theorem ddM_queue_11 : decode cM_queue 11 = .ok (.getfield 144, 3) := by decide +kernel
theorem ddM_queue_14 : decode cM_queue 14 = .ok (.iconst 1, 1) := by decide +kernel
theorem ddM_queue_15 : decode cM_queue 15 = .ok (.isub, 1) := by decide +kernel
theorem ddM_queue_16 : decode cM_queue 16 = .ok (.invokestatic 75, 3) := by decide +kernel
theorem ddM_queue_19 : decode cM_queue 19 = .ok (.ifCond .eq 40, 3) := by decide +kernel
theorem ddM_queue_22 : decode cM_queue 22 = .ok (.iload_n 3, 1) := by decide +kernel
theorem ddM_queue_23 : decode cM_queue 23 = .ok (.iconst 0, 1) := by decide +kernel
theorem ddM_queue_24 : decode cM_queue 24 = .ok (.aload_n 0, 1) := by decide +kernel
theorem ddM_queue_25 : decode cM_queue 25 = .ok (.getfield 31, 3) := by decide +kernel
theorem ddM_queue_28 : decode cM_queue 28 = .ok (.iload_n 1, 1) := by decide +kernel
theorem ddM_queue_29 : decode cM_queue 29 = .ok (.iload_n 2, 1) := by decide +kernel
theorem ddM_queue_30 : decode cM_queue 30 = .ok (.invokestatic 182, 3) := by decide +kernel
theorem ddM_queue_33 : decode cM_queue 33 = .ok (.iaload, 1) := by decide +kernel
theorem ddM_queue_34 : decode cM_queue 34 = .ok (.iconst 1, 1) := by decide +kernel
theorem ddM_queue_35 : decode cM_queue 35 = .ok (.isub, 1) := by decide +kernel
theorem ddM_queue_36 : decode cM_queue 36 = .ok (.invokestatic 75, 3) := by decide +kernel
theorem ddM_queue_39 : decode cM_queue 39 = .ok (.ifCond .eq 20, 3) := by decide +kernel
theorem ddM_queue_42 : decode cM_queue 42 = .ok (.aload_n 0, 1) := by decide +kernel
theorem ddM_queue_43 : decode cM_queue 43 = .ok (.getfield 31, 3) := by decide +kernel
theorem ddM_queue_46 : decode cM_queue 46 = .ok (.iload_n 1, 1) := by decide +kernel
theorem ddM_queue_47 : decode cM_queue 47 = .ok (.iload_n 2, 1) := by decide +kernel
theorem ddM_queue_48 : decode cM_queue 48 = .ok (.invokestatic 182, 3) := by decide +kernel
theorem ddM_queue_51 : decode cM_queue 51 = .ok (.iconst 1, 1) := by decide +kernel
theorem ddM_queue_52 : decode cM_queue 52 = .ok (.iadd, 1) := by decide +kernel
theorem ddM_queue_53 : decode cM_queue 53 = .ok (.iload_n 3, 1) := by decide +kernel
theorem ddM_queue_54 : decode cM_queue 54 = .ok (.iadd, 1) := by decide +kernel
theorem ddM_queue_55 : decode cM_queue 55 = .ok (.iaload, 1) := by decide +kernel
theorem ddM_queue_56 : decode cM_queue 56 = .ok (.goto 4, 3) := by decide +kernel
theorem ddM_queue_59 : decode cM_queue 59 = .ok (.iconst (-1), 1) := by decide +kernel
theorem ddM_queue_60 : decode cM_queue 60 = .ok (.ireturn, 1) := by decide +kernel
set_option maxHeartbeats 2000000 in
theorem zBM_queue_60 {G : GXM} {X : CxM} (hG : GokM G) (C : CoM G X cM_queue "HomeFreedModel") (N : mLM X = 4) {d : Nat} (hD : dpM X = d) (hd : 2 ≤ d)  {q : Int32 × Mem} (E : EnM G X (some .int) (some (.int q.1)) q.2 0 0) {w0 : Int32} {M : Mem} (h : BM_queue_60 w0 M = some q) : ZM G X 60 [] [.int w0] M 0 0 := by
  unfold BM_queue_60 at h
  obtain rfl := Option.some.inj h
  exact zz_iret C E ddM_queue_60
set_option maxHeartbeats 2000000 in
theorem zBM_queue_59 {G : GXM} {X : CxM} (hG : GokM G) (C : CoM G X cM_queue "HomeFreedModel") (N : mLM X = 4) {d : Nat} (hD : dpM X = d) (hd : 2 ≤ d)  {q : Int32 × Mem} (E : EnM G X (some .int) (some (.int q.1)) q.2 0 0) {M : Mem} (h : BM_queue_59 M = some q) : ZM G X 59 [] [] M 0 0 := by
  unfold BM_queue_59 at h
  refine zz_iconst (v := (-1)) C ddM_queue_59 (by decide) ?_
  exact zBM_queue_60 hG C N hD hd E h
set_option maxHeartbeats 2000000 in
theorem xM_queue {G : GXM} {l : Launch} (hG : GokM G) (d : Nat) (hd : 2 ≤ d) {v0 : Nat} {v1 : Int32} {v2 : Int32} {v3 : Int32} {M : Mem} {q : Int32 × Mem} (h : fM_queue v0 v1 v2 v3 M = some q) : ExM G l d 0 0 yM_queue cM_queue 4 (some .int) [.ref v0, .int v1, .int v2, .int v3] M (some (.int q.1)) q.2 := by
  refine ex_of hG (by decide +kernel) (Nat.le_of_ble_eq_true rfl) ?_
  intro X hl C E N hD hn
  show ZM G X 0 [(0, .ref v0), (1, .int v1), (2, .int v2), (3, .int v3)] [] M 0 0
  unfold fM_queue at h
  refine zz_aload_n C 0 ddM_queue_0 rfl rfl ?_
  refine zz_iload_n C 1 ddM_queue_1 rfl rfl ?_
  obtain ⟨h2, h⟩ := gdN h
  obtain ⟨q1, hq1, h⟩ := bindN h
  refine zz_callV0 (As := [.int v1]) C ddM_queue_2 wd_1409 my_M_isThread mv_M_isThread ⟨_, rfl, rfl⟩ (xM_isThread hG (d - 1) (by omega) hq1) (by omega) h2 rfl rfl (Nat.le_of_ble_eq_true rfl) ?_
  refine zz_if_eq (tgt := 59) C ddM_queue_5 rfl (fun hc => ?_) (fun hc => ?_)
  · replace h := iteT h hc
    refine zz_loc (L1 := []) [] rfl ?_
    exact zBM_queue_59 hG C N hD hd E h
  · replace h := iteF h hc
    refine zz_iload_n C 2 ddM_queue_8 rfl rfl ?_
    refine zz_iconst (v := 0) C ddM_queue_9 (by decide) ?_
    refine zz_aload_n C 0 ddM_queue_10 rfl rfl ?_
    obtain ⟨h3, h⟩ := gdN h
    refine zz_geti C ddM_queue_11 fl_M_144 rfl h3 ?_
    refine zz_iconst (v := 1) C ddM_queue_14 (by decide) ?_
    refine zz_isub C ddM_queue_15 ?_
    obtain ⟨q4, hq4, h⟩ := bindN h
    refine zz_callS0 (As := [.int v2, .int 0, .int ((giM q1.2 v0 10) - 1)]) C ddM_queue_16 wd_1289 my_M_in mv_M_in (xM_in hG (d - 1) (by omega) hq4) (by omega) rfl rfl (Nat.le_of_ble_eq_true rfl) ?_
    refine zz_if_eq (tgt := 59) C ddM_queue_19 rfl (fun hc => ?_) (fun hc => ?_)
    · replace h := iteT h hc
      refine zz_loc (L1 := []) [] rfl ?_
      exact zBM_queue_59 hG C N hD hd E h
    · replace h := iteF h hc
      refine zz_iload_n C 3 ddM_queue_22 rfl rfl ?_
      refine zz_iconst (v := 0) C ddM_queue_23 (by decide) ?_
      refine zz_aload_n C 0 ddM_queue_24 rfl rfl ?_
      obtain ⟨h5, h⟩ := gdN h
      obtain ⟨h6, h⟩ := gdN h
      refine zz_getr C ddM_queue_25 fl_M_31 rfl h5 (of_decide_eq_true h6) ?_
      refine zz_iload_n C 1 ddM_queue_28 rfl rfl ?_
      refine zz_iload_n C 2 ddM_queue_29 rfl rfl ?_
      obtain ⟨q7, hq7, h⟩ := bindN h
      refine zz_callS0 (As := [.int v1, .int v2]) C ddM_queue_30 wd_1432 my_M_queueAt mv_M_queueAt (xM_queueAt hG (d - 1) (by omega) hq7) (by omega) rfl rfl (Nat.le_of_ble_eq_true rfl) ?_
      obtain ⟨h8, h⟩ := gdN h
      refine zz_iaload C ddM_queue_33 h8 ?_
      refine zz_iconst (v := 1) C ddM_queue_34 (by decide) ?_
      refine zz_isub C ddM_queue_35 ?_
      obtain ⟨q9, hq9, h⟩ := bindN h
      refine zz_callS0 (As := [.int v3, .int 0, .int ((giM q7.2 (grM q4.2 v0 15) (Int32.toNatClampNeg q7.1)) - 1)]) C ddM_queue_36 wd_1289 my_M_in mv_M_in (xM_in hG (d - 1) (by omega) hq9) (by omega) rfl rfl (Nat.le_of_ble_eq_true rfl) ?_
      refine zz_if_eq (tgt := 59) C ddM_queue_39 rfl (fun hc => ?_) (fun hc => ?_)
      · replace h := iteT h hc
        refine zz_loc (L1 := []) [] rfl ?_
        exact zBM_queue_59 hG C N hD hd E h
      · replace h := iteF h hc
        refine zz_aload_n C 0 ddM_queue_42 rfl rfl ?_
        obtain ⟨h10, h⟩ := gdN h
        obtain ⟨h11, h⟩ := gdN h
        refine zz_getr C ddM_queue_43 fl_M_31 rfl h10 (of_decide_eq_true h11) ?_
        refine zz_iload_n C 1 ddM_queue_46 rfl rfl ?_
        refine zz_iload_n C 2 ddM_queue_47 rfl rfl ?_
        obtain ⟨q12, hq12, h⟩ := bindN h
        refine zz_callS0 (As := [.int v1, .int v2]) C ddM_queue_48 wd_1432 my_M_queueAt mv_M_queueAt (xM_queueAt hG (d - 1) (by omega) hq12) (by omega) rfl rfl (Nat.le_of_ble_eq_true rfl) ?_
        refine zz_iconst (v := 1) C ddM_queue_51 (by decide) ?_
        refine zz_iadd C ddM_queue_52 ?_
        refine zz_iload_n C 3 ddM_queue_53 rfl rfl ?_
        refine zz_iadd C ddM_queue_54 ?_
        obtain ⟨h13, h⟩ := gdN h
        refine zz_iaload C ddM_queue_55 h13 ?_
        refine zz_goto (tgt := 60) C ddM_queue_56 rfl ?_
        refine zz_loc (L1 := []) [] rfl ?_
        exact zBM_queue_60 hG C N hD hd E h
theorem ddM_outbox_0 : decode cM_outbox 0 = .ok (.aload_n 0, 1) := by decide +kernel
theorem ddM_outbox_1 : decode cM_outbox 1 = .ok (.iload_n 1, 1) := by decide +kernel
theorem ddM_outbox_2 : decode cM_outbox 2 = .ok (.invokevirtual 163, 3) := by decide +kernel
theorem ddM_outbox_5 : decode cM_outbox 5 = .ok (.ifCond .eq 48, 3) := by decide +kernel
theorem ddM_outbox_8 : decode cM_outbox 8 = .ok (.aload_n 0, 1) := by decide +kernel
theorem ddM_outbox_9 : decode cM_outbox 9 = .ok (.iload_n 2, 1) := by decide +kernel
theorem ddM_outbox_10 : decode cM_outbox 10 = .ok (.invokevirtual 297, 3) := by decide +kernel
theorem ddM_outbox_13 : decode cM_outbox 13 = .ok (.ifCond .eq 40, 3) := by decide +kernel
theorem ddM_outbox_16 : decode cM_outbox 16 = .ok (.iload_n 3, 1) := by decide +kernel
theorem ddM_outbox_17 : decode cM_outbox 17 = .ok (.iconst 0, 1) := by decide +kernel
theorem ddM_outbox_18 : decode cM_outbox 18 = .ok (.aload_n 0, 1) := by decide +kernel
theorem ddM_outbox_19 : decode cM_outbox 19 = .ok (.getfield 31, 3) := by decide +kernel
theorem ddM_outbox_22 : decode cM_outbox 22 = .ok (.iload_n 1, 1) := by decide +kernel
theorem ddM_outbox_23 : decode cM_outbox 23 = .ok (.iload_n 2, 1) := by decide +kernel
theorem ddM_outbox_24 : decode cM_outbox 24 = .ok (.invokestatic 238, 3) := by decide +kernel
theorem ddM_outbox_27 : decode cM_outbox 27 = .ok (.iaload, 1) := by decide +kernel
theorem ddM_outbox_28 : decode cM_outbox 28 = .ok (.iconst 1, 1) := by decide +kernel
theorem ddM_outbox_29 : decode cM_outbox 29 = .ok (.isub, 1) := by decide +kernel
theorem ddM_outbox_30 : decode cM_outbox 30 = .ok (.invokestatic 75, 3) := by decide +kernel
theorem ddM_outbox_33 : decode cM_outbox 33 = .ok (.ifCond .eq 20, 3) := by decide +kernel
theorem ddM_outbox_36 : decode cM_outbox 36 = .ok (.aload_n 0, 1) := by decide +kernel
theorem ddM_outbox_37 : decode cM_outbox 37 = .ok (.getfield 31, 3) := by decide +kernel
theorem ddM_outbox_40 : decode cM_outbox 40 = .ok (.iload_n 1, 1) := by decide +kernel
theorem ddM_outbox_41 : decode cM_outbox 41 = .ok (.iload_n 2, 1) := by decide +kernel
theorem ddM_outbox_42 : decode cM_outbox 42 = .ok (.invokestatic 238, 3) := by decide +kernel
theorem ddM_outbox_45 : decode cM_outbox 45 = .ok (.iconst 1, 1) := by decide +kernel
theorem ddM_outbox_46 : decode cM_outbox 46 = .ok (.iadd, 1) := by decide +kernel
theorem ddM_outbox_47 : decode cM_outbox 47 = .ok (.iload_n 3, 1) := by decide +kernel
theorem ddM_outbox_48 : decode cM_outbox 48 = .ok (.iadd, 1) := by decide +kernel
theorem ddM_outbox_49 : decode cM_outbox 49 = .ok (.iaload, 1) := by decide +kernel
theorem ddM_outbox_50 : decode cM_outbox 50 = .ok (.goto 4, 3) := by decide +kernel
theorem ddM_outbox_53 : decode cM_outbox 53 = .ok (.iconst (-1), 1) := by decide +kernel
theorem ddM_outbox_54 : decode cM_outbox 54 = .ok (.ireturn, 1) := by decide +kernel
set_option maxHeartbeats 2000000 in
theorem zBM_outbox_54 {G : GXM} {X : CxM} (hG : GokM G) (C : CoM G X cM_outbox "HomeFreedModel") (N : mLM X = 4) {d : Nat} (hD : dpM X = d) (hd : 2 ≤ d)  {q : Int32 × Mem} (E : EnM G X (some .int) (some (.int q.1)) q.2 0 0) {w0 : Int32} {M : Mem} (h : BM_outbox_54 w0 M = some q) : ZM G X 54 [] [.int w0] M 0 0 := by
  unfold BM_outbox_54 at h
  obtain rfl := Option.some.inj h
  exact zz_iret C E ddM_outbox_54
set_option maxHeartbeats 2000000 in
theorem zBM_outbox_53 {G : GXM} {X : CxM} (hG : GokM G) (C : CoM G X cM_outbox "HomeFreedModel") (N : mLM X = 4) {d : Nat} (hD : dpM X = d) (hd : 2 ≤ d)  {q : Int32 × Mem} (E : EnM G X (some .int) (some (.int q.1)) q.2 0 0) {M : Mem} (h : BM_outbox_53 M = some q) : ZM G X 53 [] [] M 0 0 := by
  unfold BM_outbox_53 at h
  refine zz_iconst (v := (-1)) C ddM_outbox_53 (by decide) ?_
  exact zBM_outbox_54 hG C N hD hd E h
set_option maxHeartbeats 2000000 in
theorem xM_outbox {G : GXM} {l : Launch} (hG : GokM G) (d : Nat) (hd : 2 ≤ d) {v0 : Nat} {v1 : Int32} {v2 : Int32} {v3 : Int32} {M : Mem} {q : Int32 × Mem} (h : fM_outbox v0 v1 v2 v3 M = some q) : ExM G l d 0 0 yM_outbox cM_outbox 4 (some .int) [.ref v0, .int v1, .int v2, .int v3] M (some (.int q.1)) q.2 := by
  refine ex_of hG (by decide +kernel) (Nat.le_of_ble_eq_true rfl) ?_
  intro X hl C E N hD hn
  show ZM G X 0 [(0, .ref v0), (1, .int v1), (2, .int v2), (3, .int v3)] [] M 0 0
  unfold fM_outbox at h
  refine zz_aload_n C 0 ddM_outbox_0 rfl rfl ?_
  refine zz_iload_n C 1 ddM_outbox_1 rfl rfl ?_
  obtain ⟨h2, h⟩ := gdN h
  obtain ⟨q1, hq1, h⟩ := bindN h
  refine zz_callV0 (As := [.int v1]) C ddM_outbox_2 wd_1409 my_M_isThread mv_M_isThread ⟨_, rfl, rfl⟩ (xM_isThread hG (d - 1) (by omega) hq1) (by omega) h2 rfl rfl (Nat.le_of_ble_eq_true rfl) ?_
  refine zz_if_eq (tgt := 53) C ddM_outbox_5 rfl (fun hc => ?_) (fun hc => ?_)
  · replace h := iteT h hc
    refine zz_loc (L1 := []) [] rfl ?_
    exact zBM_outbox_53 hG C N hD hd E h
  · replace h := iteF h hc
    refine zz_aload_n C 0 ddM_outbox_8 rfl rfl ?_
    refine zz_iload_n C 2 ddM_outbox_9 rfl rfl ?_
    obtain ⟨h4, h⟩ := gdN h
    obtain ⟨q3, hq3, h⟩ := bindN h
    refine zz_callV0 (As := [.int v2]) C ddM_outbox_10 wd_1374 my_M_isPage mv_M_isPage ⟨_, rfl, rfl⟩ (xM_isPage hG (d - 1) (by omega) hq3) (by omega) h4 rfl rfl (Nat.le_of_ble_eq_true rfl) ?_
    refine zz_if_eq (tgt := 53) C ddM_outbox_13 rfl (fun hc => ?_) (fun hc => ?_)
    · replace h := iteT h hc
      refine zz_loc (L1 := []) [] rfl ?_
      exact zBM_outbox_53 hG C N hD hd E h
    · replace h := iteF h hc
      refine zz_iload_n C 3 ddM_outbox_16 rfl rfl ?_
      refine zz_iconst (v := 0) C ddM_outbox_17 (by decide) ?_
      refine zz_aload_n C 0 ddM_outbox_18 rfl rfl ?_
      obtain ⟨h5, h⟩ := gdN h
      obtain ⟨h6, h⟩ := gdN h
      refine zz_getr C ddM_outbox_19 fl_M_31 rfl h5 (of_decide_eq_true h6) ?_
      refine zz_iload_n C 1 ddM_outbox_22 rfl rfl ?_
      refine zz_iload_n C 2 ddM_outbox_23 rfl rfl ?_
      obtain ⟨q7, hq7, h⟩ := bindN h
      refine zz_callS0 (As := [.int v1, .int v2]) C ddM_outbox_24 wd_1425 my_M_boxAt mv_M_boxAt (xM_boxAt hG (d - 1) (by omega) hq7) (by omega) rfl rfl (Nat.le_of_ble_eq_true rfl) ?_
      obtain ⟨h8, h⟩ := gdN h
      refine zz_iaload C ddM_outbox_27 h8 ?_
      refine zz_iconst (v := 1) C ddM_outbox_28 (by decide) ?_
      refine zz_isub C ddM_outbox_29 ?_
      obtain ⟨q9, hq9, h⟩ := bindN h
      refine zz_callS0 (As := [.int v3, .int 0, .int ((giM q7.2 (grM q3.2 v0 15) (Int32.toNatClampNeg q7.1)) - 1)]) C ddM_outbox_30 wd_1289 my_M_in mv_M_in (xM_in hG (d - 1) (by omega) hq9) (by omega) rfl rfl (Nat.le_of_ble_eq_true rfl) ?_
      refine zz_if_eq (tgt := 53) C ddM_outbox_33 rfl (fun hc => ?_) (fun hc => ?_)
      · replace h := iteT h hc
        refine zz_loc (L1 := []) [] rfl ?_
        exact zBM_outbox_53 hG C N hD hd E h
      · replace h := iteF h hc
        refine zz_aload_n C 0 ddM_outbox_36 rfl rfl ?_
        obtain ⟨h10, h⟩ := gdN h
        obtain ⟨h11, h⟩ := gdN h
        refine zz_getr C ddM_outbox_37 fl_M_31 rfl h10 (of_decide_eq_true h11) ?_
        refine zz_iload_n C 1 ddM_outbox_40 rfl rfl ?_
        refine zz_iload_n C 2 ddM_outbox_41 rfl rfl ?_
        obtain ⟨q12, hq12, h⟩ := bindN h
        refine zz_callS0 (As := [.int v1, .int v2]) C ddM_outbox_42 wd_1425 my_M_boxAt mv_M_boxAt (xM_boxAt hG (d - 1) (by omega) hq12) (by omega) rfl rfl (Nat.le_of_ble_eq_true rfl) ?_
        refine zz_iconst (v := 1) C ddM_outbox_45 (by decide) ?_
        refine zz_iadd C ddM_outbox_46 ?_
        refine zz_iload_n C 3 ddM_outbox_47 rfl rfl ?_
        refine zz_iadd C ddM_outbox_48 ?_
        obtain ⟨h13, h⟩ := gdN h
        refine zz_iaload C ddM_outbox_49 h13 ?_
        refine zz_goto (tgt := 54) C ddM_outbox_50 rfl ?_
        refine zz_loc (L1 := []) [] rfl ?_
        exact zBM_outbox_54 hG C N hD hd E h
theorem ddM_isBlock_0 : decode cM_isBlock 0 = .ok (.iload_n 1, 1) := by decide +kernel
theorem ddM_isBlock_1 : decode cM_isBlock 1 = .ok (.ifCond .lt 33, 3) := by decide +kernel
theorem ddM_isBlock_4 : decode cM_isBlock 4 = .ok (.aload_n 0, 1) := by decide +kernel
theorem ddM_isBlock_5 : decode cM_isBlock 5 = .ok (.iload_n 1, 1) := by decide +kernel
theorem ddM_isBlock_6 : decode cM_isBlock 6 = .ok (.bipush 100, 2) := by decide +kernel
theorem ddM_isBlock_8 : decode cM_isBlock 8 = .ok (.idiv, 1) := by decide +kernel
theorem ddM_isBlock_9 : decode cM_isBlock 9 = .ok (.invokevirtual 297, 3) := by decide +kernel
theorem ddM_isBlock_12 : decode cM_isBlock 12 = .ok (.ifCond .eq 22, 3) := by decide +kernel
theorem ddM_isBlock_15 : decode cM_isBlock 15 = .ok (.iload_n 1, 1) := by decide +kernel
theorem ddM_isBlock_16 : decode cM_isBlock 16 = .ok (.bipush 100, 2) := by decide +kernel
theorem ddM_isBlock_18 : decode cM_isBlock 18 = .ok (.irem, 1) := by decide +kernel
theorem ddM_isBlock_19 : decode cM_isBlock 19 = .ok (.aload_n 0, 1) := by decide +kernel
theorem ddM_isBlock_20 : decode cM_isBlock 20 = .ok (.iload_n 1, 1) := by decide +kernel
theorem ddM_isBlock_21 : decode cM_isBlock 21 = .ok (.bipush 100, 2) := by decide +kernel
theorem ddM_isBlock_23 : decode cM_isBlock 23 = .ok (.idiv, 1) := by decide +kernel
theorem ddM_isBlock_24 : decode cM_isBlock 24 = .ok (.invokevirtual 176, 3) := by decide +kernel
theorem ddM_isBlock_27 : decode cM_isBlock 27 = .ok (.if_icmp .ge 7, 3) := by decide +kernel
theorem ddM_isBlock_30 : decode cM_isBlock 30 = .ok (.iconst 1, 1) := by decide +kernel
theorem ddM_isBlock_31 : decode cM_isBlock 31 = .ok (.goto 4, 3) := by decide +kernel
theorem ddM_isBlock_34 : decode cM_isBlock 34 = .ok (.iconst 0, 1) := by decide +kernel
theorem ddM_isBlock_35 : decode cM_isBlock 35 = .ok (.ireturn, 1) := by decide +kernel
set_option maxHeartbeats 2000000 in
theorem zBM_isBlock_35 {G : GXM} {X : CxM} (hG : GokM G) (C : CoM G X cM_isBlock "HomeFreedModel") (N : mLM X = 2) {d : Nat} (hD : dpM X = d) (hd : 2 ≤ d)  {q : Int32 × Mem} (E : EnM G X (some .boolean) (some (.int q.1)) q.2 0 0) {w0 : Int32} {M : Mem} (h : BM_isBlock_35 w0 M = some q) : ZM G X 35 [] [.int w0] M 0 0 := by
  unfold BM_isBlock_35 at h
  obtain ⟨h1, h⟩ := gdN h
  obtain rfl := Option.some.inj h
  exact zz_zret C (of_decide_eq_true h1) E ddM_isBlock_35
set_option maxHeartbeats 2000000 in
theorem zBM_isBlock_34 {G : GXM} {X : CxM} (hG : GokM G) (C : CoM G X cM_isBlock "HomeFreedModel") (N : mLM X = 2) {d : Nat} (hD : dpM X = d) (hd : 2 ≤ d)  {q : Int32 × Mem} (E : EnM G X (some .boolean) (some (.int q.1)) q.2 0 0) {M : Mem} (h : BM_isBlock_34 M = some q) : ZM G X 34 [] [] M 0 0 := by
  unfold BM_isBlock_34 at h
  refine zz_iconst (v := 0) C ddM_isBlock_34 (by decide) ?_
  exact zBM_isBlock_35 hG C N hD hd E h
set_option maxHeartbeats 2000000 in
theorem xM_isBlock {G : GXM} {l : Launch} (hG : GokM G) (d : Nat) (hd : 2 ≤ d) {v0 : Nat} {v1 : Int32} {M : Mem} {q : Int32 × Mem} (h : fM_isBlock v0 v1 M = some q) : ExM G l d 0 0 yM_isBlock cM_isBlock 2 (some .boolean) [.ref v0, .int v1] M (some (.int q.1)) q.2 := by
  refine ex_of hG (by decide +kernel) (Nat.le_of_ble_eq_true rfl) ?_
  intro X hl C E N hD hn
  show ZM G X 0 [(0, .ref v0), (1, .int v1)] [] M 0 0
  unfold fM_isBlock at h
  refine zz_iload_n C 1 ddM_isBlock_0 rfl rfl ?_
  refine zz_if_lt (tgt := 34) C ddM_isBlock_1 rfl (fun hc => ?_) (fun hc => ?_)
  · replace h := iteT h hc
    refine zz_loc (L1 := []) [] rfl ?_
    exact zBM_isBlock_34 hG C N hD hd E h
  · replace h := iteF h hc
    refine zz_aload_n C 0 ddM_isBlock_4 rfl rfl ?_
    refine zz_iload_n C 1 ddM_isBlock_5 rfl rfl ?_
    refine zz_bipush (v := 100) C ddM_isBlock_6 (by decide) ?_
    refine zz_idiv C ddM_isBlock_8 (by decide) ?_
    obtain ⟨h2, h⟩ := gdN h
    obtain ⟨q1, hq1, h⟩ := bindN h
    refine zz_callV0 (As := [.int (v1 / 100)]) C ddM_isBlock_9 wd_1374 my_M_isPage mv_M_isPage ⟨_, rfl, rfl⟩ (xM_isPage hG (d - 1) (by omega) hq1) (by omega) h2 rfl rfl (Nat.le_of_ble_eq_true rfl) ?_
    refine zz_if_eq (tgt := 34) C ddM_isBlock_12 rfl (fun hc => ?_) (fun hc => ?_)
    · replace h := iteT h hc
      refine zz_loc (L1 := []) [] rfl ?_
      exact zBM_isBlock_34 hG C N hD hd E h
    · replace h := iteF h hc
      refine zz_iload_n C 1 ddM_isBlock_15 rfl rfl ?_
      refine zz_bipush (v := 100) C ddM_isBlock_16 (by decide) ?_
      refine zz_irem C ddM_isBlock_18 (by decide) ?_
      refine zz_aload_n C 0 ddM_isBlock_19 rfl rfl ?_
      refine zz_iload_n C 1 ddM_isBlock_20 rfl rfl ?_
      refine zz_bipush (v := 100) C ddM_isBlock_21 (by decide) ?_
      refine zz_idiv C ddM_isBlock_23 (by decide) ?_
      obtain ⟨h4, h⟩ := gdN h
      obtain ⟨q3, hq3, h⟩ := bindN h
      refine zz_callV0 (As := [.int (v1 / 100)]) C ddM_isBlock_24 wd_1390 my_M_blocksOf mv_M_blocksOf ⟨_, rfl, rfl⟩ (xM_blocksOf hG (d - 1) (by omega) hq3) (by omega) h4 rfl rfl (Nat.le_of_ble_eq_true rfl) ?_
      refine zz_icmp_ge (tgt := 34) C ddM_isBlock_27 rfl (fun hc => ?_) (fun hc => ?_)
      · replace h := iteT h hc
        refine zz_loc (L1 := []) [] rfl ?_
        exact zBM_isBlock_34 hG C N hD hd E h
      · replace h := iteF h hc
        refine zz_iconst (v := 1) C ddM_isBlock_30 (by decide) ?_
        refine zz_goto (tgt := 35) C ddM_isBlock_31 rfl ?_
        refine zz_loc (L1 := []) [] rfl ?_
        exact zBM_isBlock_35 hG C N hD hd E h
theorem ddM_isHeld_0 : decode cM_isHeld 0 = .ok (.aload_n 0, 1) := by decide +kernel
theorem ddM_isHeld_1 : decode cM_isHeld 1 = .ok (.iload_n 1, 1) := by decide +kernel
theorem ddM_isHeld_2 : decode cM_isHeld 2 = .ok (.bipush 100, 2) := by decide +kernel
theorem ddM_isHeld_4 : decode cM_isHeld 4 = .ok (.idiv, 1) := by decide +kernel
theorem ddM_isHeld_5 : decode cM_isHeld 5 = .ok (.bipush 126, 2) := by decide +kernel
theorem ddM_isHeld_7 : decode cM_isHeld 7 = .ok (.iload_n 1, 1) := by decide +kernel
theorem ddM_isHeld_8 : decode cM_isHeld 8 = .ok (.bipush 100, 2) := by decide +kernel
theorem ddM_isHeld_10 : decode cM_isHeld 10 = .ok (.irem, 1) := by decide +kernel
theorem ddM_isHeld_11 : decode cM_isHeld 11 = .ok (.iadd, 1) := by decide +kernel
theorem ddM_isHeld_12 : decode cM_isHeld 12 = .ok (.invokevirtual 170, 3) := by decide +kernel
theorem ddM_isHeld_15 : decode cM_isHeld 15 = .ok (.iconst 1, 1) := by decide +kernel
theorem ddM_isHeld_16 : decode cM_isHeld 16 = .ok (.if_icmp .ne 7, 3) := by decide +kernel
theorem ddM_isHeld_19 : decode cM_isHeld 19 = .ok (.iconst 1, 1) := by decide +kernel
theorem ddM_isHeld_20 : decode cM_isHeld 20 = .ok (.goto 4, 3) := by decide +kernel
theorem ddM_isHeld_23 : decode cM_isHeld 23 = .ok (.iconst 0, 1) := by decide +kernel
theorem ddM_isHeld_24 : decode cM_isHeld 24 = .ok (.ireturn, 1) := by decide +kernel
set_option maxHeartbeats 2000000 in
theorem zBM_isHeld_24 {G : GXM} {X : CxM} (hG : GokM G) (C : CoM G X cM_isHeld "HomeFreedModel") (N : mLM X = 2) {d : Nat} (hD : dpM X = d) (hd : 1 ≤ d)  {q : Int32 × Mem} (E : EnM G X (some .boolean) (some (.int q.1)) q.2 0 0) {w0 : Int32} {M : Mem} (h : BM_isHeld_24 w0 M = some q) : ZM G X 24 [] [.int w0] M 0 0 := by
  unfold BM_isHeld_24 at h
  obtain ⟨h1, h⟩ := gdN h
  obtain rfl := Option.some.inj h
  exact zz_zret C (of_decide_eq_true h1) E ddM_isHeld_24
set_option maxHeartbeats 2000000 in
theorem xM_isHeld {G : GXM} {l : Launch} (hG : GokM G) (d : Nat) (hd : 1 ≤ d) {v0 : Nat} {v1 : Int32} {M : Mem} {q : Int32 × Mem} (h : fM_isHeld v0 v1 M = some q) : ExM G l d 0 0 yM_isHeld cM_isHeld 2 (some .boolean) [.ref v0, .int v1] M (some (.int q.1)) q.2 := by
  refine ex_of hG (by decide +kernel) (Nat.le_of_ble_eq_true rfl) ?_
  intro X hl C E N hD hn
  show ZM G X 0 [(0, .ref v0), (1, .int v1)] [] M 0 0
  unfold fM_isHeld at h
  refine zz_aload_n C 0 ddM_isHeld_0 rfl rfl ?_
  refine zz_iload_n C 1 ddM_isHeld_1 rfl rfl ?_
  refine zz_bipush (v := 100) C ddM_isHeld_2 (by decide) ?_
  refine zz_idiv C ddM_isHeld_4 (by decide) ?_
  refine zz_bipush (v := 126) C ddM_isHeld_5 (by decide) ?_
  refine zz_iload_n C 1 ddM_isHeld_7 rfl rfl ?_
  refine zz_bipush (v := 100) C ddM_isHeld_8 (by decide) ?_
  refine zz_irem C ddM_isHeld_10 (by decide) ?_
  refine zz_iadd C ddM_isHeld_11 ?_
  obtain ⟨h2, h⟩ := gdN h
  obtain ⟨q1, hq1, h⟩ := bindN h
  refine zz_callV0 (As := [.int (v1 / 100), .int (126 + (v1 - v1 / 100 * 100))]) C ddM_isHeld_12 wd_1378 my_M_of mv_M_of ⟨_, rfl, rfl⟩ (xM_of hG (d - 1) (by omega) hq1) (by omega) h2 rfl rfl (Nat.le_of_ble_eq_true rfl) ?_
  refine zz_iconst (v := 1) C ddM_isHeld_15 (by decide) ?_
  refine zz_icmp_ne (tgt := 23) C ddM_isHeld_16 rfl (fun hc => ?_) (fun hc => ?_)
  · replace h := iteF h hc
    refine zz_iconst (v := 0) C ddM_isHeld_23 (by decide) ?_
    refine zz_loc (L1 := []) [] rfl ?_
    exact zBM_isHeld_24 hG C N hD hd E h
  · replace h := iteT h hc
    refine zz_iconst (v := 1) C ddM_isHeld_19 (by decide) ?_
    refine zz_goto (tgt := 24) C ddM_isHeld_20 rfl ?_
    refine zz_loc (L1 := []) [] rfl ?_
    exact zBM_isHeld_24 hG C N hD hd E h
theorem ddM_held_0 : decode cM_held 0 = .ok (.aload_n 0, 1) := by decide +kernel
theorem ddM_held_1 : decode cM_held 1 = .ok (.iload_n 1, 1) := by decide +kernel
theorem ddM_held_2 : decode cM_held 2 = .ok (.invokevirtual 306, 3) := by decide +kernel
theorem ddM_held_5 : decode cM_held 5 = .ok (.ifCond .ne 7, 3) := by decide +kernel
theorem ddM_held_8 : decode cM_held 8 = .ok (.iconst (-1), 1) := by decide +kernel
theorem ddM_held_9 : decode cM_held 9 = .ok (.goto 16, 3) := by decide +kernel
theorem ddM_held_12 : decode cM_held 12 = .ok (.aload_n 0, 1) := by decide +kernel
theorem ddM_held_13 : decode cM_held 13 = .ok (.iload_n 1, 1) := by decide +kernel
theorem ddM_held_14 : decode cM_held 14 = .ok (.invokevirtual 309, 3) := by decide +kernel
theorem ddM_held_17 : decode cM_held 17 = .ok (.ifCond .eq 7, 3) := by decide +kernel
theorem ddM_held_20 : decode cM_held 20 = .ok (.iconst 1, 1) := by decide +kernel
theorem ddM_held_21 : decode cM_held 21 = .ok (.goto 4, 3) := by decide +kernel
theorem ddM_held_24 : decode cM_held 24 = .ok (.iconst 0, 1) := by decide +kernel
theorem ddM_held_25 : decode cM_held 25 = .ok (.ireturn, 1) := by decide +kernel
set_option maxHeartbeats 2000000 in
theorem zBM_held_25 {G : GXM} {X : CxM} (hG : GokM G) (C : CoM G X cM_held "HomeFreedModel") (N : mLM X = 2) {d : Nat} (hD : dpM X = d) (hd : 3 ≤ d)  {q : Int32 × Mem} (E : EnM G X (some .int) (some (.int q.1)) q.2 0 0) {w0 : Int32} {M : Mem} (h : BM_held_25 w0 M = some q) : ZM G X 25 [] [.int w0] M 0 0 := by
  unfold BM_held_25 at h
  obtain rfl := Option.some.inj h
  exact zz_iret C E ddM_held_25
set_option maxHeartbeats 2000000 in
theorem xM_held {G : GXM} {l : Launch} (hG : GokM G) (d : Nat) (hd : 3 ≤ d) {v0 : Nat} {v1 : Int32} {M : Mem} {q : Int32 × Mem} (h : fM_held v0 v1 M = some q) : ExM G l d 0 0 yM_held cM_held 2 (some .int) [.ref v0, .int v1] M (some (.int q.1)) q.2 := by
  refine ex_of hG (by decide +kernel) (Nat.le_of_ble_eq_true rfl) ?_
  intro X hl C E N hD hn
  show ZM G X 0 [(0, .ref v0), (1, .int v1)] [] M 0 0
  unfold fM_held at h
  refine zz_aload_n C 0 ddM_held_0 rfl rfl ?_
  refine zz_iload_n C 1 ddM_held_1 rfl rfl ?_
  obtain ⟨h2, h⟩ := gdN h
  obtain ⟨q1, hq1, h⟩ := bindN h
  refine zz_callV0 (As := [.int v1]) C ddM_held_2 wd_1443 my_M_isBlock mv_M_isBlock ⟨_, rfl, rfl⟩ (xM_isBlock hG (d - 1) (by omega) hq1) (by omega) h2 rfl rfl (Nat.le_of_ble_eq_true rfl) ?_
  refine zz_if_ne (tgt := 12) C ddM_held_5 rfl (fun hc => ?_) (fun hc => ?_)
  · replace h := iteF h hc
    refine zz_aload_n C 0 ddM_held_12 rfl rfl ?_
    refine zz_iload_n C 1 ddM_held_13 rfl rfl ?_
    obtain ⟨h4, h⟩ := gdN h
    obtain ⟨q3, hq3, h⟩ := bindN h
    refine zz_callV0 (As := [.int v1]) C ddM_held_14 wd_1447 my_M_isHeld mv_M_isHeld ⟨_, rfl, rfl⟩ (xM_isHeld hG (d - 1) (by omega) hq3) (by omega) h4 rfl rfl (Nat.le_of_ble_eq_true rfl) ?_
    refine zz_if_eq (tgt := 24) C ddM_held_17 rfl (fun hc => ?_) (fun hc => ?_)
    · replace h := iteT h hc
      refine zz_iconst (v := 0) C ddM_held_24 (by decide) ?_
      refine zz_loc (L1 := []) [] rfl ?_
      exact zBM_held_25 hG C N hD hd E h
    · replace h := iteF h hc
      refine zz_iconst (v := 1) C ddM_held_20 (by decide) ?_
      refine zz_goto (tgt := 25) C ddM_held_21 rfl ?_
      refine zz_loc (L1 := []) [] rfl ?_
      exact zBM_held_25 hG C N hD hd E h
  · replace h := iteT h hc
    refine zz_iconst (v := (-1)) C ddM_held_8 (by decide) ?_
    refine zz_goto (tgt := 25) C ddM_held_9 rfl ?_
    refine zz_loc (L1 := []) [] rfl ?_
    exact zBM_held_25 hG C N hD hd E h
theorem ddM_classFor_0 : decode cM_classFor 0 = .ok (.iconst 0, 1) := by decide +kernel
theorem ddM_classFor_1 : decode cM_classFor 1 = .ok (.istore_n 2, 1) := by decide +kernel
theorem ddM_classFor_2 : decode cM_classFor 2 = .ok (.iload_n 2, 1) := by decide +kernel
theorem ddM_classFor_3 : decode cM_classFor 3 = .ok (.aload_n 0, 1) := by decide +kernel
theorem ddM_classFor_4 : decode cM_classFor 4 = .ok (.getfield 144, 3) := by decide +kernel
theorem ddM_classFor_7 : decode cM_classFor 7 = .ok (.if_icmp .ge 21, 3) := by decide +kernel
theorem ddM_classFor_10 : decode cM_classFor 10 = .ok (.aload_n 0, 1) := by decide +kernel
theorem ddM_classFor_11 : decode cM_classFor 11 = .ok (.getfield 22, 3) := by decide +kernel
theorem ddM_classFor_14 : decode cM_classFor 14 = .ok (.iload_n 2, 1) := by decide +kernel
theorem ddM_classFor_15 : decode cM_classFor 15 = .ok (.iaload, 1) := by decide +kernel
theorem ddM_classFor_16 : decode cM_classFor 16 = .ok (.iload_n 1, 1) := by decide +kernel
theorem ddM_classFor_17 : decode cM_classFor 17 = .ok (.if_icmp .lt 5, 3) := by decide +kernel
theorem ddM_classFor_20 : decode cM_classFor 20 = .ok (.iload_n 2, 1) := by decide +kernel
theorem ddM_classFor_21 : decode cM_classFor 21 = .ok (.ireturn, 1) := by decide +kernel
theorem ddM_classFor_22 : decode cM_classFor 22 = .ok (.iinc 2 1, 3) := by decide +kernel
theorem ddM_classFor_25 : decode cM_classFor 25 = .ok (.goto (-23), 3) := by decide +kernel
theorem ddM_classFor_28 : decode cM_classFor 28 = .ok (.iconst (-1), 1) := by decide +kernel
theorem ddM_classFor_29 : decode cM_classFor 29 = .ok (.ireturn, 1) := by decide +kernel
set_option maxHeartbeats 2000000 in
theorem zBM_classFor_2 {G : GXM} {X : CxM} (hG : GokM G) (C : CoM G X cM_classFor "HomeFreedModel") (N : mLM X = 3) {d : Nat} (hD : dpM X = d) (hd : 0 ≤ d) {v0 : Nat} {v1 : Int32} {K : Nat → Int32 → Int32 → Mem → Option ((Int32 × Mem))} {q : (Int32 × Mem)} (hK : ∀ (v2 : Int32) (M : Mem), K v0 v1 v2 M = some q → ZM G X 2 [(0, .ref v0), (1, .int v1), (2, .int v2)] [] M 0 0) (hr : ∀ r : Int32 × Mem, q =  r → EnM G X (some .int) (some (.int r.1)) r.2 0 0) {v2 : Int32} {M : Mem} (h : BM_classFor_2 K v0 v1 v2 M = some q) : ZM G X 2 [(0, .ref v0), (1, .int v1), (2, .int v2)] [] M 0 0 := by
  unfold BM_classFor_2 at h
  refine zz_iload_n C 2 ddM_classFor_2 rfl rfl ?_
  refine zz_aload_n C 0 ddM_classFor_3 rfl rfl ?_
  obtain ⟨h1, h⟩ := gdN h
  refine zz_geti C ddM_classFor_4 fl_M_144 rfl h1 ?_
  refine zz_icmp_ge (tgt := 28) C ddM_classFor_7 rfl (fun hc => ?_) (fun hc => ?_)
  · replace h := iteT h hc
    refine zz_iconst (v := (-1)) C ddM_classFor_28 (by decide) ?_
    exact zz_iret C (hr _ (Option.some.inj h).symm) ddM_classFor_29
  · replace h := iteF h hc
    refine zz_aload_n C 0 ddM_classFor_10 rfl rfl ?_
    obtain ⟨h2, h⟩ := gdN h
    refine zz_getr C ddM_classFor_11 fl_M_22 rfl h1 (of_decide_eq_true h2) ?_
    refine zz_iload_n C 2 ddM_classFor_14 rfl rfl ?_
    obtain ⟨h3, h⟩ := gdN h
    refine zz_iaload C ddM_classFor_15 h3 ?_
    refine zz_iload_n C 1 ddM_classFor_16 rfl rfl ?_
    refine zz_icmp_lt (tgt := 22) C ddM_classFor_17 rfl (fun hc => ?_) (fun hc => ?_)
    · replace h := iteT h hc
      refine zz_iinc (v := v2 + 1) (L1 := [(2, .int (v2 + 1)), (0, .ref v0), (1, .int v1)]) C 2 ddM_classFor_22 rfl rfl N (by decide) rfl ?_
      refine zz_goto (tgt := 2) C ddM_classFor_25 rfl ?_
      refine zz_loc (L1 := [(0, .ref v0), (1, .int v1), (2, .int (v2 + 1))]) [1, 2, 0] rfl ?_
      exact hK _ _ h
    · replace h := iteF h hc
      refine zz_iload_n C 2 ddM_classFor_20 rfl rfl ?_
      exact zz_iret C (hr _ (Option.some.inj h).symm) ddM_classFor_21
set_option maxHeartbeats 2000000 in
theorem zLM_classFor_2 {G : GXM} {X : CxM} (hG : GokM G) (C : CoM G X cM_classFor "HomeFreedModel") (N : mLM X = 3) {d : Nat} (hD : dpM X = d) (hd : 0 ≤ d) {v0 : Nat} {v1 : Int32} {q : (Int32 × Mem)} : ∀ (f : Nat) (v2 : Int32) (M : Mem), LM_classFor_2 f v0 v1 v2 M = some q → (hr : ∀ r : Int32 × Mem, q =  r → EnM G X (some .int) (some (.int r.1)) r.2 0 0) → ZM G X 2 [(0, .ref v0), (1, .int v1), (2, .int v2)] [] M 0 0 := by
  intro f
  induction f with
  | zero => intro v2 M h; cases h
  | succ f ih =>
    intro v2 M h hr
    exact zBM_classFor_2 hG C N hD hd (K := LM_classFor_2 f) (q := q) (fun v2 M h => ih v2 M h hr) hr h
set_option maxHeartbeats 2000000 in
theorem xM_classFor {G : GXM} {l : Launch} (hG : GokM G) (d : Nat) (hd : 0 ≤ d) {v0 : Nat} {v1 : Int32} {M : Mem} {q : Int32 × Mem} (h : fM_classFor v0 v1 M = some q) : ExM G l d 0 0 yM_classFor cM_classFor 3 (some .int) [.ref v0, .int v1] M (some (.int q.1)) q.2 := by
  refine ex_of hG (by decide +kernel) (Nat.le_of_ble_eq_true rfl) ?_
  intro X hl C E N hD hn
  show ZM G X 0 [(0, .ref v0), (1, .int v1)] [] M 0 0
  unfold fM_classFor at h
  refine zz_iconst (v := 0) C ddM_classFor_0 (by decide) ?_
  refine zz_istore_n (L1 := [(2, .int 0), (0, .ref v0), (1, .int v1)]) C ddM_classFor_1 rfl N (by decide) rfl ?_
  refine zz_loc (L1 := [(0, .ref v0), (1, .int v1), (2, .int 0)]) [1, 2, 0] rfl ?_
  obtain ⟨q1, hq1, h⟩ := bindN h
  refine zLM_classFor_2 hG C N hD hd 1000000 _ _ hq1 ?_
  · intro r2 eq1; replace eq1 := eq1.symm; subst eq1
    obtain rfl := Option.some.inj h
    exact E
theorem ddM_isAsked_0 : decode cM_isAsked 0 = .ok (.iload_n 1, 1) := by decide +kernel
theorem ddM_isAsked_1 : decode cM_isAsked 1 = .ok (.iconst 1, 1) := by decide +kernel
theorem ddM_isAsked_2 : decode cM_isAsked 2 = .ok (.bipush 40, 2) := by decide +kernel
theorem ddM_isAsked_4 : decode cM_isAsked 4 = .ok (.invokestatic 75, 3) := by decide +kernel
theorem ddM_isAsked_7 : decode cM_isAsked 7 = .ok (.ifCond .eq 16, 3) := by decide +kernel
theorem ddM_isAsked_10 : decode cM_isAsked 10 = .ok (.aload_n 0, 1) := by decide +kernel
theorem ddM_isAsked_11 : decode cM_isAsked 11 = .ok (.iload_n 1, 1) := by decide +kernel
theorem ddM_isAsked_12 : decode cM_isAsked 12 = .ok (.invokevirtual 263, 3) := by decide +kernel
theorem ddM_isAsked_15 : decode cM_isAsked 15 = .ok (.iconst (-1), 1) := by decide +kernel
theorem ddM_isAsked_16 : decode cM_isAsked 16 = .ok (.if_icmp .eq 7, 3) := by decide +kernel
theorem ddM_isAsked_19 : decode cM_isAsked 19 = .ok (.iconst 1, 1) := by decide +kernel
theorem ddM_isAsked_20 : decode cM_isAsked 20 = .ok (.goto 4, 3) := by decide +kernel
theorem ddM_isAsked_23 : decode cM_isAsked 23 = .ok (.iconst 0, 1) := by decide +kernel
theorem ddM_isAsked_24 : decode cM_isAsked 24 = .ok (.ireturn, 1) := by decide +kernel
set_option maxHeartbeats 2000000 in
theorem zBM_isAsked_24 {G : GXM} {X : CxM} (hG : GokM G) (C : CoM G X cM_isAsked "HomeFreedModel") (N : mLM X = 2) {d : Nat} (hD : dpM X = d) (hd : 1 ≤ d)  {q : Int32 × Mem} (E : EnM G X (some .boolean) (some (.int q.1)) q.2 0 0) {w0 : Int32} {M : Mem} (h : BM_isAsked_24 w0 M = some q) : ZM G X 24 [] [.int w0] M 0 0 := by
  unfold BM_isAsked_24 at h
  obtain ⟨h1, h⟩ := gdN h
  obtain rfl := Option.some.inj h
  exact zz_zret C (of_decide_eq_true h1) E ddM_isAsked_24
set_option maxHeartbeats 2000000 in
theorem zBM_isAsked_23 {G : GXM} {X : CxM} (hG : GokM G) (C : CoM G X cM_isAsked "HomeFreedModel") (N : mLM X = 2) {d : Nat} (hD : dpM X = d) (hd : 1 ≤ d)  {q : Int32 × Mem} (E : EnM G X (some .boolean) (some (.int q.1)) q.2 0 0) {M : Mem} (h : BM_isAsked_23 M = some q) : ZM G X 23 [] [] M 0 0 := by
  unfold BM_isAsked_23 at h
  refine zz_iconst (v := 0) C ddM_isAsked_23 (by decide) ?_
  exact zBM_isAsked_24 hG C N hD hd E h
set_option maxHeartbeats 2000000 in
theorem xM_isAsked {G : GXM} {l : Launch} (hG : GokM G) (d : Nat) (hd : 1 ≤ d) {v0 : Nat} {v1 : Int32} {M : Mem} {q : Int32 × Mem} (h : fM_isAsked v0 v1 M = some q) : ExM G l d 0 0 yM_isAsked cM_isAsked 2 (some .boolean) [.ref v0, .int v1] M (some (.int q.1)) q.2 := by
  refine ex_of hG (by decide +kernel) (Nat.le_of_ble_eq_true rfl) ?_
  intro X hl C E N hD hn
  show ZM G X 0 [(0, .ref v0), (1, .int v1)] [] M 0 0
  unfold fM_isAsked at h
  refine zz_iload_n C 1 ddM_isAsked_0 rfl rfl ?_
  refine zz_iconst (v := 1) C ddM_isAsked_1 (by decide) ?_
  refine zz_bipush (v := 40) C ddM_isAsked_2 (by decide) ?_
  obtain ⟨q1, hq1, h⟩ := bindN h
  refine zz_callS0 (As := [.int v1, .int 1, .int 40]) C ddM_isAsked_4 wd_1289 my_M_in mv_M_in (xM_in hG (d - 1) (by omega) hq1) (by omega) rfl rfl (Nat.le_of_ble_eq_true rfl) ?_
  refine zz_if_eq (tgt := 23) C ddM_isAsked_7 rfl (fun hc => ?_) (fun hc => ?_)
  · replace h := iteT h hc
    refine zz_loc (L1 := []) [] rfl ?_
    exact zBM_isAsked_23 hG C N hD hd E h
  · replace h := iteF h hc
    refine zz_aload_n C 0 ddM_isAsked_10 rfl rfl ?_
    refine zz_iload_n C 1 ddM_isAsked_11 rfl rfl ?_
    obtain ⟨h3, h⟩ := gdN h
    obtain ⟨q2, hq2, h⟩ := bindN h
    refine zz_callV0 (As := [.int v1]) C ddM_isAsked_12 wd_1459 my_M_classFor mv_M_classFor ⟨_, rfl, rfl⟩ (xM_classFor hG (d - 1) (by omega) hq2) (by omega) h3 rfl rfl (Nat.le_of_ble_eq_true rfl) ?_
    refine zz_iconst (v := (-1)) C ddM_isAsked_15 (by decide) ?_
    refine zz_icmp_eq (tgt := 23) C ddM_isAsked_16 rfl (fun hc => ?_) (fun hc => ?_)
    · replace h := iteT h hc
      refine zz_loc (L1 := []) [] rfl ?_
      exact zBM_isAsked_23 hG C N hD hd E h
    · replace h := iteF h hc
      refine zz_iconst (v := 1) C ddM_isAsked_19 (by decide) ?_
      refine zz_goto (tgt := 24) C ddM_isAsked_20 rfl ?_
      refine zz_loc (L1 := []) [] rfl ?_
      exact zBM_isAsked_24 hG C N hD hd E h
theorem ddM_doesLive_0 : decode cM_doesLive 0 = .ok (.aload_n 0, 1) := by decide +kernel
theorem ddM_doesLive_1 : decode cM_doesLive 1 = .ok (.iload_n 1, 1) := by decide +kernel
theorem ddM_doesLive_2 : decode cM_doesLive 2 = .ok (.invokevirtual 163, 3) := by decide +kernel
theorem ddM_doesLive_5 : decode cM_doesLive 5 = .ok (.ifCond .eq 21, 3) := by decide +kernel
theorem ddM_doesLive_8 : decode cM_doesLive 8 = .ok (.aload_n 0, 1) := by decide +kernel
theorem ddM_doesLive_9 : decode cM_doesLive 9 = .ok (.getfield 31, 3) := by decide +kernel
theorem ddM_doesLive_12 : decode cM_doesLive 12 = .ok (.sipush 3704, 3) := by decide +kernel
theorem ddM_doesLive_15 : decode cM_doesLive 15 = .ok (.iload_n 1, 1) := by decide +kernel
theorem ddM_doesLive_16 : decode cM_doesLive 16 = .ok (.iadd, 1) := by decide +kernel
theorem ddM_doesLive_17 : decode cM_doesLive 17 = .ok (.iaload, 1) := by decide +kernel
theorem ddM_doesLive_18 : decode cM_doesLive 18 = .ok (.iconst 1, 1) := by decide +kernel
theorem ddM_doesLive_19 : decode cM_doesLive 19 = .ok (.if_icmp .ne 7, 3) := by decide +kernel
theorem ddM_doesLive_22 : decode cM_doesLive 22 = .ok (.iconst 1, 1) := by decide +kernel
theorem ddM_doesLive_23 : decode cM_doesLive 23 = .ok (.goto 4, 3) := by decide +kernel
theorem ddM_doesLive_26 : decode cM_doesLive 26 = .ok (.iconst 0, 1) := by decide +kernel
theorem ddM_doesLive_27 : decode cM_doesLive 27 = .ok (.ireturn, 1) := by decide +kernel
set_option maxHeartbeats 2000000 in
theorem zBM_doesLive_27 {G : GXM} {X : CxM} (hG : GokM G) (C : CoM G X cM_doesLive "HomeFreedModel") (N : mLM X = 2) {d : Nat} (hD : dpM X = d) (hd : 2 ≤ d)  {q : Int32 × Mem} (E : EnM G X (some .boolean) (some (.int q.1)) q.2 0 0) {w0 : Int32} {M : Mem} (h : BM_doesLive_27 w0 M = some q) : ZM G X 27 [] [.int w0] M 0 0 := by
  unfold BM_doesLive_27 at h
  obtain ⟨h1, h⟩ := gdN h
  obtain rfl := Option.some.inj h
  exact zz_zret C (of_decide_eq_true h1) E ddM_doesLive_27
set_option maxHeartbeats 2000000 in
theorem zBM_doesLive_26 {G : GXM} {X : CxM} (hG : GokM G) (C : CoM G X cM_doesLive "HomeFreedModel") (N : mLM X = 2) {d : Nat} (hD : dpM X = d) (hd : 2 ≤ d)  {q : Int32 × Mem} (E : EnM G X (some .boolean) (some (.int q.1)) q.2 0 0) {M : Mem} (h : BM_doesLive_26 M = some q) : ZM G X 26 [] [] M 0 0 := by
  unfold BM_doesLive_26 at h
  refine zz_iconst (v := 0) C ddM_doesLive_26 (by decide) ?_
  exact zBM_doesLive_27 hG C N hD hd E h
set_option maxHeartbeats 2000000 in
theorem xM_doesLive {G : GXM} {l : Launch} (hG : GokM G) (d : Nat) (hd : 2 ≤ d) {v0 : Nat} {v1 : Int32} {M : Mem} {q : Int32 × Mem} (h : fM_doesLive v0 v1 M = some q) : ExM G l d 0 0 yM_doesLive cM_doesLive 2 (some .boolean) [.ref v0, .int v1] M (some (.int q.1)) q.2 := by
  refine ex_of hG (by decide +kernel) (Nat.le_of_ble_eq_true rfl) ?_
  intro X hl C E N hD hn
  show ZM G X 0 [(0, .ref v0), (1, .int v1)] [] M 0 0
  unfold fM_doesLive at h
  refine zz_aload_n C 0 ddM_doesLive_0 rfl rfl ?_
  refine zz_iload_n C 1 ddM_doesLive_1 rfl rfl ?_
  obtain ⟨h2, h⟩ := gdN h
  obtain ⟨q1, hq1, h⟩ := bindN h
  refine zz_callV0 (As := [.int v1]) C ddM_doesLive_2 wd_1409 my_M_isThread mv_M_isThread ⟨_, rfl, rfl⟩ (xM_isThread hG (d - 1) (by omega) hq1) (by omega) h2 rfl rfl (Nat.le_of_ble_eq_true rfl) ?_
  refine zz_if_eq (tgt := 26) C ddM_doesLive_5 rfl (fun hc => ?_) (fun hc => ?_)
  · replace h := iteT h hc
    refine zz_loc (L1 := []) [] rfl ?_
    exact zBM_doesLive_26 hG C N hD hd E h
  · replace h := iteF h hc
    refine zz_aload_n C 0 ddM_doesLive_8 rfl rfl ?_
    obtain ⟨h3, h⟩ := gdN h
    obtain ⟨h4, h⟩ := gdN h
    refine zz_getr C ddM_doesLive_9 fl_M_31 rfl h3 (of_decide_eq_true h4) ?_
    refine zz_sipush (v := 3704) C ddM_doesLive_12 (by decide) ?_
    refine zz_iload_n C 1 ddM_doesLive_15 rfl rfl ?_
    refine zz_iadd C ddM_doesLive_16 ?_
    obtain ⟨h5, h⟩ := gdN h
    refine zz_iaload C ddM_doesLive_17 h5 ?_
    refine zz_iconst (v := 1) C ddM_doesLive_18 (by decide) ?_
    refine zz_icmp_ne (tgt := 26) C ddM_doesLive_19 rfl (fun hc => ?_) (fun hc => ?_)
    · replace h := iteF h hc
      refine zz_loc (L1 := []) [] rfl ?_
      exact zBM_doesLive_26 hG C N hD hd E h
    · replace h := iteT h hc
      refine zz_iconst (v := 1) C ddM_doesLive_22 (by decide) ?_
      refine zz_goto (tgt := 27) C ddM_doesLive_23 rfl ?_
      refine zz_loc (L1 := []) [] rfl ?_
      exact zBM_doesLive_27 hG C N hD hd E h
theorem ddM_otherPage_0 : decode cM_otherPage 0 = .ok (.iconst 0, 1) := by decide +kernel
theorem ddM_otherPage_1 : decode cM_otherPage 1 = .ok (.istore_n 3, 1) := by decide +kernel
theorem ddM_otherPage_2 : decode cM_otherPage 2 = .ok (.iload_n 3, 1) := by decide +kernel
theorem ddM_otherPage_3 : decode cM_otherPage 3 = .ok (.aload_n 0, 1) := by decide +kernel
theorem ddM_otherPage_4 : decode cM_otherPage 4 = .ok (.getfield 19, 3) := by decide +kernel
theorem ddM_otherPage_7 : decode cM_otherPage 7 = .ok (.iconst 1, 1) := by decide +kernel
theorem ddM_otherPage_8 : decode cM_otherPage 8 = .ok (.iaload, 1) := by decide +kernel
theorem ddM_otherPage_9 : decode cM_otherPage 9 = .ok (.if_icmp .ge 72, 3) := by decide +kernel
theorem ddM_otherPage_12 : decode cM_otherPage 12 = .ok (.iload_n 2, 1) := by decide +kernel
theorem ddM_otherPage_13 : decode cM_otherPage 13 = .ok (.ifCond .eq 39, 3) := by decide +kernel
theorem ddM_otherPage_16 : decode cM_otherPage 16 = .ok (.aload_n 0, 1) := by decide +kernel
theorem ddM_otherPage_17 : decode cM_otherPage 17 = .ok (.iload_n 3, 1) := by decide +kernel
theorem ddM_otherPage_18 : decode cM_otherPage 18 = .ok (.iconst 0, 1) := by decide +kernel
theorem ddM_otherPage_19 : decode cM_otherPage 19 = .ok (.invokevirtual 170, 3) := by decide +kernel
theorem ddM_otherPage_22 : decode cM_otherPage 22 = .ok (.iconst 3, 1) := by decide +kernel
theorem ddM_otherPage_23 : decode cM_otherPage 23 = .ok (.if_icmp .ne 25, 3) := by decide +kernel
theorem ddM_otherPage_26 : decode cM_otherPage 26 = .ok (.aload_n 0, 1) := by decide +kernel
theorem ddM_otherPage_27 : decode cM_otherPage 27 = .ok (.iload_n 3, 1) := by decide +kernel
theorem ddM_otherPage_28 : decode cM_otherPage 28 = .ok (.iconst 2, 1) := by decide +kernel
theorem ddM_otherPage_29 : decode cM_otherPage 29 = .ok (.invokevirtual 170, 3) := by decide +kernel
theorem ddM_otherPage_32 : decode cM_otherPage 32 = .ok (.iload_n 1, 1) := by decide +kernel
theorem ddM_otherPage_33 : decode cM_otherPage 33 = .ok (.if_icmp .ne 15, 3) := by decide +kernel
theorem ddM_otherPage_36 : decode cM_otherPage 36 = .ok (.aload_n 0, 1) := by decide +kernel
theorem ddM_otherPage_37 : decode cM_otherPage 37 = .ok (.iload_n 3, 1) := by decide +kernel
theorem ddM_otherPage_38 : decode cM_otherPage 38 = .ok (.invokevirtual 179, 3) := by decide +kernel
theorem ddM_otherPage_41 : decode cM_otherPage 41 = .ok (.ifCond .le 7, 3) := by decide +kernel
theorem ddM_otherPage_44 : decode cM_otherPage 44 = .ok (.iconst 1, 1) := by decide +kernel
theorem ddM_otherPage_45 : decode cM_otherPage 45 = .ok (.goto 21, 3) := by decide +kernel
theorem ddM_otherPage_48 : decode cM_otherPage 48 = .ok (.iconst 0, 1) := by decide +kernel
theorem ddM_otherPage_49 : decode cM_otherPage 49 = .ok (.goto 17, 3) := by decide +kernel
theorem ddM_otherPage_52 : decode cM_otherPage 52 = .ok (.aload_n 0, 1) := by decide +kernel
theorem ddM_otherPage_53 : decode cM_otherPage 53 = .ok (.iload_n 3, 1) := by decide +kernel
theorem ddM_otherPage_54 : decode cM_otherPage 54 = .ok (.iconst 0, 1) := by decide +kernel
theorem ddM_otherPage_55 : decode cM_otherPage 55 = .ok (.invokevirtual 170, 3) := by decide +kernel
theorem ddM_otherPage_58 : decode cM_otherPage 58 = .ok (.ifCond .ne 7, 3) := by decide +kernel
theorem ddM_otherPage_61 : decode cM_otherPage 61 = .ok (.iconst 1, 1) := by decide +kernel
theorem ddM_otherPage_62 : decode cM_otherPage 62 = .ok (.goto 4, 3) := by decide +kernel
theorem ddM_otherPage_65 : decode cM_otherPage 65 = .ok (.iconst 0, 1) := by decide +kernel
theorem ddM_otherPage_66 : decode cM_otherPage 66 = .ok (.istore 4, 2) := by decide +kernel
theorem ddM_otherPage_68 : decode cM_otherPage 68 = .ok (.iload 4, 2) := by decide +kernel
theorem ddM_otherPage_70 : decode cM_otherPage 70 = .ok (.ifCond .eq 5, 3) := by decide +kernel
theorem ddM_otherPage_73 : decode cM_otherPage 73 = .ok (.iload_n 3, 1) := by decide +kernel
theorem ddM_otherPage_74 : decode cM_otherPage 74 = .ok (.ireturn, 1) := by decide +kernel
theorem ddM_otherPage_75 : decode cM_otherPage 75 = .ok (.iinc 3 1, 3) := by decide +kernel
theorem ddM_otherPage_78 : decode cM_otherPage 78 = .ok (.goto (-76), 3) := by decide +kernel
theorem ddM_otherPage_81 : decode cM_otherPage 81 = .ok (.iconst (-1), 1) := by decide +kernel
theorem ddM_otherPage_82 : decode cM_otherPage 82 = .ok (.ireturn, 1) := by decide +kernel
set_option maxHeartbeats 2000000 in
theorem zBM_otherPage_66 {G : GXM} {X : CxM} (hG : GokM G) (C : CoM G X cM_otherPage "HomeFreedModel") (N : mLM X = 5) {d : Nat} (hD : dpM X = d) (hd : 2 ≤ d) {v0 : Nat} {v1 : Int32} {v2 : Int32} {K : Nat → Int32 → Int32 → Int32 → Mem → Option ((Int32 × Mem))} {q : (Int32 × Mem)} (hK : ∀ (v3 : Int32) (M : Mem), K v0 v1 v2 v3 M = some q → ZM G X 2 [(0, .ref v0), (1, .int v1), (2, .int v2), (3, .int v3)] [] M 0 0) (hr : ∀ r : Int32 × Mem, q =  r → EnM G X (some .int) (some (.int r.1)) r.2 0 0) {v3 : Int32} {w0 : Int32} {M : Mem} (h : BM_otherPage_66 K v0 v1 v2 v3 w0 M = some q) : ZM G X 66 [(0, .ref v0), (1, .int v1), (2, .int v2), (3, .int v3)] [.int w0] M 0 0 := by
  unfold BM_otherPage_66 at h
  refine zz_istore (L1 := [(4, .int w0), (0, .ref v0), (1, .int v1), (2, .int v2), (3, .int v3)]) C ddM_otherPage_66 N (by decide) rfl ?_
  refine zz_iload C 0 ddM_otherPage_68 rfl ?_
  refine zz_if_eq (tgt := 75) C ddM_otherPage_70 rfl (fun hc => ?_) (fun hc => ?_)
  · replace h := iteT h hc
    refine zz_iinc (v := v3 + 1) (L1 := [(3, .int (v3 + 1)), (4, .int w0), (0, .ref v0), (1, .int v1), (2, .int v2)]) C 4 ddM_otherPage_75 rfl rfl N (by decide) rfl ?_
    refine zz_goto (tgt := 2) C ddM_otherPage_78 rfl ?_
    refine zz_loc (L1 := [(0, .ref v0), (1, .int v1), (2, .int v2), (3, .int (v3 + 1))]) [2, 3, 4, 0] rfl ?_
    exact hK _ _ h
  · replace h := iteF h hc
    refine zz_iload_n C 4 ddM_otherPage_73 rfl rfl ?_
    exact zz_iret C (hr _ (Option.some.inj h).symm) ddM_otherPage_74
set_option maxHeartbeats 2000000 in
theorem zBM_otherPage_48 {G : GXM} {X : CxM} (hG : GokM G) (C : CoM G X cM_otherPage "HomeFreedModel") (N : mLM X = 5) {d : Nat} (hD : dpM X = d) (hd : 2 ≤ d) {v0 : Nat} {v1 : Int32} {v2 : Int32} {K : Nat → Int32 → Int32 → Int32 → Mem → Option ((Int32 × Mem))} {q : (Int32 × Mem)} (hK : ∀ (v3 : Int32) (M : Mem), K v0 v1 v2 v3 M = some q → ZM G X 2 [(0, .ref v0), (1, .int v1), (2, .int v2), (3, .int v3)] [] M 0 0) (hr : ∀ r : Int32 × Mem, q =  r → EnM G X (some .int) (some (.int r.1)) r.2 0 0) {v3 : Int32} {M : Mem} (h : BM_otherPage_48 K v0 v1 v2 v3 M = some q) : ZM G X 48 [(0, .ref v0), (1, .int v1), (2, .int v2), (3, .int v3)] [] M 0 0 := by
  unfold BM_otherPage_48 at h
  refine zz_iconst (v := 0) C ddM_otherPage_48 (by decide) ?_
  refine zz_goto (tgt := 66) C ddM_otherPage_49 rfl ?_
  exact zBM_otherPage_66 hG C N hD hd hK hr h
set_option maxHeartbeats 2000000 in
theorem zBM_otherPage_2 {G : GXM} {X : CxM} (hG : GokM G) (C : CoM G X cM_otherPage "HomeFreedModel") (N : mLM X = 5) {d : Nat} (hD : dpM X = d) (hd : 2 ≤ d) {v0 : Nat} {v1 : Int32} {v2 : Int32} {K : Nat → Int32 → Int32 → Int32 → Mem → Option ((Int32 × Mem))} {q : (Int32 × Mem)} (hK : ∀ (v3 : Int32) (M : Mem), K v0 v1 v2 v3 M = some q → ZM G X 2 [(0, .ref v0), (1, .int v1), (2, .int v2), (3, .int v3)] [] M 0 0) (hr : ∀ r : Int32 × Mem, q =  r → EnM G X (some .int) (some (.int r.1)) r.2 0 0) {v3 : Int32} {M : Mem} (h : BM_otherPage_2 K v0 v1 v2 v3 M = some q) : ZM G X 2 [(0, .ref v0), (1, .int v1), (2, .int v2), (3, .int v3)] [] M 0 0 := by
  unfold BM_otherPage_2 at h
  refine zz_iload_n C 3 ddM_otherPage_2 rfl rfl ?_
  refine zz_aload_n C 0 ddM_otherPage_3 rfl rfl ?_
  obtain ⟨h1, h⟩ := gdN h
  obtain ⟨h2, h⟩ := gdN h
  refine zz_getr C ddM_otherPage_4 fl_M_19 rfl h1 (of_decide_eq_true h2) ?_
  refine zz_iconst (v := 1) C ddM_otherPage_7 (by decide) ?_
  obtain ⟨h3, h⟩ := gdN h
  refine zz_iaload C ddM_otherPage_8 h3 ?_
  refine zz_icmp_ge (tgt := 81) C ddM_otherPage_9 rfl (fun hc => ?_) (fun hc => ?_)
  · replace h := iteT h hc
    refine zz_iconst (v := (-1)) C ddM_otherPage_81 (by decide) ?_
    exact zz_iret C (hr _ (Option.some.inj h).symm) ddM_otherPage_82
  · replace h := iteF h hc
    refine zz_iload_n C 2 ddM_otherPage_12 rfl rfl ?_
    refine zz_if_eq (tgt := 52) C ddM_otherPage_13 rfl (fun hc => ?_) (fun hc => ?_)
    · replace h := iteT h hc
      refine zz_aload_n C 0 ddM_otherPage_52 rfl rfl ?_
      refine zz_iload_n C 3 ddM_otherPage_53 rfl rfl ?_
      refine zz_iconst (v := 0) C ddM_otherPage_54 (by decide) ?_
      obtain ⟨q4, hq4, h⟩ := bindN h
      refine zz_callV0 (As := [.int v3, .int 0]) C ddM_otherPage_55 wd_1378 my_M_of mv_M_of ⟨_, rfl, rfl⟩ (xM_of hG (d - 1) (by omega) hq4) (by omega) h1 rfl rfl (Nat.le_of_ble_eq_true rfl) ?_
      refine zz_if_ne (tgt := 65) C ddM_otherPage_58 rfl (fun hc => ?_) (fun hc => ?_)
      · replace h := iteF h hc
        refine zz_iconst (v := 0) C ddM_otherPage_65 (by decide) ?_
        exact zBM_otherPage_66 hG C N hD hd hK hr h
      · replace h := iteT h hc
        refine zz_iconst (v := 1) C ddM_otherPage_61 (by decide) ?_
        refine zz_goto (tgt := 66) C ddM_otherPage_62 rfl ?_
        exact zBM_otherPage_66 hG C N hD hd hK hr h
    · replace h := iteF h hc
      refine zz_aload_n C 0 ddM_otherPage_16 rfl rfl ?_
      refine zz_iload_n C 3 ddM_otherPage_17 rfl rfl ?_
      refine zz_iconst (v := 0) C ddM_otherPage_18 (by decide) ?_
      obtain ⟨q5, hq5, h⟩ := bindN h
      refine zz_callV0 (As := [.int v3, .int 0]) C ddM_otherPage_19 wd_1378 my_M_of mv_M_of ⟨_, rfl, rfl⟩ (xM_of hG (d - 1) (by omega) hq5) (by omega) h1 rfl rfl (Nat.le_of_ble_eq_true rfl) ?_
      refine zz_iconst (v := 3) C ddM_otherPage_22 (by decide) ?_
      refine zz_icmp_ne (tgt := 48) C ddM_otherPage_23 rfl (fun hc => ?_) (fun hc => ?_)
      · replace h := iteF h hc
        exact zBM_otherPage_48 hG C N hD hd hK hr h
      · replace h := iteT h hc
        refine zz_aload_n C 0 ddM_otherPage_26 rfl rfl ?_
        refine zz_iload_n C 3 ddM_otherPage_27 rfl rfl ?_
        refine zz_iconst (v := 2) C ddM_otherPage_28 (by decide) ?_
        obtain ⟨h7, h⟩ := gdN h
        obtain ⟨q6, hq6, h⟩ := bindN h
        refine zz_callV0 (As := [.int v3, .int 2]) C ddM_otherPage_29 wd_1378 my_M_of mv_M_of ⟨_, rfl, rfl⟩ (xM_of hG (d - 1) (by omega) hq6) (by omega) h7 rfl rfl (Nat.le_of_ble_eq_true rfl) ?_
        refine zz_iload_n C 1 ddM_otherPage_32 rfl rfl ?_
        refine zz_icmp_ne (tgt := 48) C ddM_otherPage_33 rfl (fun hc => ?_) (fun hc => ?_)
        · replace h := iteF h hc
          exact zBM_otherPage_48 hG C N hD hd hK hr h
        · replace h := iteT h hc
          refine zz_aload_n C 0 ddM_otherPage_36 rfl rfl ?_
          refine zz_iload_n C 3 ddM_otherPage_37 rfl rfl ?_
          obtain ⟨h9, h⟩ := gdN h
          obtain ⟨q8, hq8, h⟩ := bindN h
          refine zz_callV0 (As := [.int v3]) C ddM_otherPage_38 wd_1394 my_M_listedOf mv_M_listedOf ⟨_, rfl, rfl⟩ (xM_listedOf hG (d - 1) (by omega) hq8) (by omega) h9 rfl rfl (Nat.le_of_ble_eq_true rfl) ?_
          refine zz_if_le (tgt := 48) C ddM_otherPage_41 rfl (fun hc => ?_) (fun hc => ?_)
          · replace h := iteT h hc
            exact zBM_otherPage_48 hG C N hD hd hK hr h
          · replace h := iteF h hc
            refine zz_iconst (v := 1) C ddM_otherPage_44 (by decide) ?_
            refine zz_goto (tgt := 66) C ddM_otherPage_45 rfl ?_
            exact zBM_otherPage_66 hG C N hD hd hK hr h
set_option maxHeartbeats 2000000 in
theorem zLM_otherPage_2 {G : GXM} {X : CxM} (hG : GokM G) (C : CoM G X cM_otherPage "HomeFreedModel") (N : mLM X = 5) {d : Nat} (hD : dpM X = d) (hd : 2 ≤ d) {v0 : Nat} {v1 : Int32} {v2 : Int32} {q : (Int32 × Mem)} : ∀ (f : Nat) (v3 : Int32) (M : Mem), LM_otherPage_2 f v0 v1 v2 v3 M = some q → (hr : ∀ r : Int32 × Mem, q =  r → EnM G X (some .int) (some (.int r.1)) r.2 0 0) → ZM G X 2 [(0, .ref v0), (1, .int v1), (2, .int v2), (3, .int v3)] [] M 0 0 := by
  intro f
  induction f with
  | zero => intro v3 M h; cases h
  | succ f ih =>
    intro v3 M h hr
    exact zBM_otherPage_2 hG C N hD hd (K := LM_otherPage_2 f) (q := q) (fun v3 M h => ih v3 M h hr) hr h
set_option maxHeartbeats 2000000 in
theorem xM_otherPage {G : GXM} {l : Launch} (hG : GokM G) (d : Nat) (hd : 2 ≤ d) {v0 : Nat} {v1 : Int32} {v2 : Int32} {M : Mem} {q : Int32 × Mem} (h : fM_otherPage v0 v1 v2 M = some q) : ExM G l d 0 0 yM_otherPage cM_otherPage 5 (some .int) [.ref v0, .int v1, .int v2] M (some (.int q.1)) q.2 := by
  refine ex_of hG (by decide +kernel) (Nat.le_of_ble_eq_true rfl) ?_
  intro X hl C E N hD hn
  show ZM G X 0 [(0, .ref v0), (1, .int v1), (2, .int v2)] [] M 0 0
  unfold fM_otherPage at h
  refine zz_iconst (v := 0) C ddM_otherPage_0 (by decide) ?_
  refine zz_istore_n (L1 := [(3, .int 0), (0, .ref v0), (1, .int v1), (2, .int v2)]) C ddM_otherPage_1 rfl N (by decide) rfl ?_
  refine zz_loc (L1 := [(0, .ref v0), (1, .int v1), (2, .int v2), (3, .int 0)]) [1, 2, 3, 0] rfl ?_
  obtain ⟨q1, hq1, h⟩ := bindN h
  refine zLM_otherPage_2 hG C N hD hd 1000000 _ _ hq1 ?_
  · intro r2 eq1; replace eq1 := eq1.symm; subst eq1
    obtain rfl := Option.some.inj h
    exact E
