theorem ddX_waysOf_0 : decode cX_waysOf 0 = .ok (.iconst 1, 1) := by decide +kernel
theorem ddX_waysOf_1 : decode cX_waysOf 1 = .ok (.istore_n 2, 1) := by decide +kernel
theorem ddX_waysOf_2 : decode cX_waysOf 2 = .ok (.iconst 1, 1) := by decide +kernel
theorem ddX_waysOf_3 : decode cX_waysOf 3 = .ok (.istore_n 3, 1) := by decide +kernel
theorem ddX_waysOf_4 : decode cX_waysOf 4 = .ok (.iload_n 3, 1) := by decide +kernel
theorem ddX_waysOf_5 : decode cX_waysOf 5 = .ok (.iload_n 1, 1) := by decide +kernel
theorem ddX_waysOf_6 : decode cX_waysOf 6 = .ok (.if_icmp .gt 17, 3) := by decide +kernel
theorem ddX_waysOf_9 : decode cX_waysOf 9 = .ok (.iload_n 2, 1) := by decide +kernel
theorem ddX_waysOf_10 : decode cX_waysOf 10 = .ok (.iload_n 0, 1) := by decide +kernel
theorem ddX_waysOf_11 : decode cX_waysOf 11 = .ok (.iload_n 3, 1) := by decide +kernel
theorem ddX_waysOf_12 : decode cX_waysOf 12 = .ok (.iadd, 1) := by decide +kernel
theorem ddX_waysOf_13 : decode cX_waysOf 13 = .ok (.imul, 1) := by decide +kernel
theorem ddX_waysOf_14 : decode cX_waysOf 14 = .ok (.iload_n 3, 1) := by decide +kernel
theorem ddX_waysOf_15 : decode cX_waysOf 15 = .ok (.idiv, 1) := by decide +kernel
theorem ddX_waysOf_16 : decode cX_waysOf 16 = .ok (.istore_n 2, 1) := by decide +kernel
theorem ddX_waysOf_17 : decode cX_waysOf 17 = .ok (.iinc 3 1, 3) := by decide +kernel
theorem ddX_waysOf_20 : decode cX_waysOf 20 = .ok (.goto (-16), 3) := by decide +kernel
theorem ddX_waysOf_23 : decode cX_waysOf 23 = .ok (.iload_n 2, 1) := by decide +kernel
theorem ddX_waysOf_24 : decode cX_waysOf 24 = .ok (.ireturn, 1) := by decide +kernel
set_option maxHeartbeats 2000000 in
theorem zBX_waysOf_4 {G : GXM} {X : CxM} (hG : GokM G) (C : CoM G X cX_waysOf "HomeFreed$Mixer") (N : mLM X = 4) {d : Nat} (hD : dpM X = d) (hd : 0 ≤ d) {v0 : Int32} {v1 : Int32} {K : Int32 → Int32 → Int32 → Int32 → Mem → Option ((Int32 × Mem))} {q : (Int32 × Mem)} (hK : ∀ (v2 : Int32) (v3 : Int32) (M : Mem), K v0 v1 v2 v3 M = some q → ZM G X 4 [(0, .int v0), (1, .int v1), (2, .int v2), (3, .int v3)] [] M 0 0) (hr : ∀ r : Int32 × Mem, q =  r → EnM G X (some .int) (some (.int r.1)) r.2 0 0) {v2 : Int32} {v3 : Int32} {M : Mem} (h : BX_waysOf_4 K v0 v1 v2 v3 M = some q) : ZM G X 4 [(0, .int v0), (1, .int v1), (2, .int v2), (3, .int v3)] [] M 0 0 := by
  unfold BX_waysOf_4 at h
  refine zz_iload_n C 3 ddX_waysOf_4 rfl rfl ?_
  refine zz_iload_n C 1 ddX_waysOf_5 rfl rfl ?_
  refine zz_icmp_gt (tgt := 23) C ddX_waysOf_6 rfl (fun hc => ?_) (fun hc => ?_)
  · replace h := iteT h hc
    refine zz_iload_n C 2 ddX_waysOf_23 rfl rfl ?_
    exact zz_iret C (hr _ (Option.some.inj h).symm) ddX_waysOf_24
  · replace h := iteF h hc
    refine zz_iload_n C 2 ddX_waysOf_9 rfl rfl ?_
    refine zz_iload_n C 0 ddX_waysOf_10 rfl rfl ?_
    refine zz_iload_n C 3 ddX_waysOf_11 rfl rfl ?_
    refine zz_iadd C ddX_waysOf_12 ?_
    refine zz_imul C ddX_waysOf_13 ?_
    refine zz_iload_n C 3 ddX_waysOf_14 rfl rfl ?_
    obtain ⟨h1, h⟩ := gdN h
    refine zz_idiv C ddX_waysOf_15 (of_decide_eq_true h1) ?_
    refine zz_istore_n (L1 := [(2, .int ((v2 * (v0 + v3)) / v3)), (0, .int v0), (1, .int v1), (3, .int v3)]) C ddX_waysOf_16 rfl N (by decide) rfl ?_
    refine zz_iinc (v := v3 + 1) (L1 := [(3, .int (v3 + 1)), (2, .int ((v2 * (v0 + v3)) / v3)), (0, .int v0), (1, .int v1)]) C 3 ddX_waysOf_17 rfl rfl N (by decide) rfl ?_
    refine zz_goto (tgt := 4) C ddX_waysOf_20 rfl ?_
    refine zz_loc (L1 := [(0, .int v0), (1, .int v1), (2, .int ((v2 * (v0 + v3)) / v3)), (3, .int (v3 + 1))]) [2, 3, 1, 0] rfl ?_
    exact hK _ _ _ h
set_option maxHeartbeats 2000000 in
theorem zLX_waysOf_4 {G : GXM} {X : CxM} (hG : GokM G) (C : CoM G X cX_waysOf "HomeFreed$Mixer") (N : mLM X = 4) {d : Nat} (hD : dpM X = d) (hd : 0 ≤ d) {v0 : Int32} {v1 : Int32} {q : (Int32 × Mem)} : ∀ (f : Nat) (v2 : Int32) (v3 : Int32) (M : Mem), LX_waysOf_4 f v0 v1 v2 v3 M = some q → (hr : ∀ r : Int32 × Mem, q =  r → EnM G X (some .int) (some (.int r.1)) r.2 0 0) → ZM G X 4 [(0, .int v0), (1, .int v1), (2, .int v2), (3, .int v3)] [] M 0 0 := by
  intro f
  induction f with
  | zero => intro v2 v3 M h; cases h
  | succ f ih =>
    intro v2 v3 M h hr
    exact zBX_waysOf_4 hG C N hD hd (K := LX_waysOf_4 f) (q := q) (fun v2 v3 M h => ih v2 v3 M h hr) hr h
set_option maxHeartbeats 2000000 in
theorem xX_waysOf {G : GXM} {l : Launch} (hG : GokM G) (d : Nat) (hd : 0 ≤ d) {v0 : Int32} {v1 : Int32} {M : Mem} {q : Int32 × Mem} (h : fX_waysOf v0 v1 M = some q) : ExM G l d 0 0 yX_waysOf cX_waysOf 4 (some .int) [.int v0, .int v1] M (some (.int q.1)) q.2 := by
  refine ex_of hG (by decide) (Nat.le_of_ble_eq_true rfl) ?_
  intro X hl C E N hD hn
  show ZM G X 0 [(3, .int v3), (2, .int v2), (0, .int v0), (1, .int v1)] [] M 0 0
  unfold fX_waysOf at h
  refine zz_iconst (v := 1) C ddX_waysOf_0 (by decide) ?_
  refine zz_istore_n (L1 := [(2, .int 1), (0, .int v0), (1, .int v1)]) C ddX_waysOf_1 rfl N (by decide) rfl ?_
  refine zz_iconst (v := 1) C ddX_waysOf_2 (by decide) ?_
  refine zz_istore_n (L1 := [(3, .int 1), (2, .int 1), (0, .int v0), (1, .int v1)]) C ddX_waysOf_3 rfl N (by decide) rfl ?_
  refine zz_loc (L1 := [(0, .int v0), (1, .int v1), (2, .int 1), (3, .int 1)]) [2, 3, 1, 0] rfl ?_
  obtain ⟨q1, hq1, h⟩ := bindN h
  refine zLX_waysOf_4 hG C N hD hd 1000000 _ _ _ hq1 ?_
  · intro r2 eq1; subst eq1
    obtain rfl := Option.some.inj h
    exact E
theorem ddX_mix_0 : decode cX_mix 0 = .ok (.iload_n 1, 1) := by decide +kernel
theorem ddX_mix_1 : decode cX_mix 1 = .ok (.aload_n 0, 1) := by decide +kernel
theorem ddX_mix_2 : decode cX_mix 2 = .ok (.getfield 11, 3) := by decide +kernel
theorem ddX_mix_5 : decode cX_mix 5 = .ok (.arraylength, 1) := by decide +kernel
theorem ddX_mix_6 : decode cX_mix 6 = .ok (.if_icmp .ge 15, 3) := by decide +kernel
theorem ddX_mix_9 : decode cX_mix 9 = .ok (.iload_n 2, 1) := by decide +kernel
theorem ddX_mix_10 : decode cX_mix 10 = .ok (.bipush 6, 2) := by decide +kernel
theorem ddX_mix_12 : decode cX_mix 12 = .ok (.if_icmp .gt 9, 3) := by decide +kernel
theorem ddX_mix_15 : decode cX_mix 15 = .ok (.iload_n 3, 1) := by decide +kernel
theorem ddX_mix_16 : decode cX_mix 16 = .ok (.bipush 6, 2) := by decide +kernel
theorem ddX_mix_18 : decode cX_mix 18 = .ok (.if_icmp .le 4, 3) := by decide +kernel
theorem ddX_mix_21 : decode cX_mix 21 = .ok (.return_, 1) := by decide +kernel
theorem ddX_mix_22 : decode cX_mix 22 = .ok (.aload_n 0, 1) := by decide +kernel
theorem ddX_mix_23 : decode cX_mix 23 = .ok (.getfield 33, 3) := by decide +kernel
theorem ddX_mix_26 : decode cX_mix 26 = .ok (.getfield 60, 3) := by decide +kernel
theorem ddX_mix_29 : decode cX_mix 29 = .ok (.iload_n 2, 1) := by decide +kernel
theorem ddX_mix_30 : decode cX_mix 30 = .ok (.isub, 1) := by decide +kernel
theorem ddX_mix_31 : decode cX_mix 31 = .ok (.istore 4, 2) := by decide +kernel
theorem ddX_mix_33 : decode cX_mix 33 = .ok (.aload_n 0, 1) := by decide +kernel
theorem ddX_mix_34 : decode cX_mix 34 = .ok (.getfield 37, 3) := by decide +kernel
theorem ddX_mix_37 : decode cX_mix 37 = .ok (.getfield 60, 3) := by decide +kernel
theorem ddX_mix_40 : decode cX_mix 40 = .ok (.iload_n 3, 1) := by decide +kernel
theorem ddX_mix_41 : decode cX_mix 41 = .ok (.isub, 1) := by decide +kernel
theorem ddX_mix_42 : decode cX_mix 42 = .ok (.istore 5, 2) := by decide +kernel
theorem ddX_mix_44 : decode cX_mix 44 = .ok (.iload 4, 2) := by decide +kernel
theorem ddX_mix_46 : decode cX_mix 46 = .ok (.ifCond .gt 30, 3) := by decide +kernel
theorem ddX_mix_49 : decode cX_mix 49 = .ok (.iload 5, 2) := by decide +kernel
theorem ddX_mix_51 : decode cX_mix 51 = .ok (.ifCond .gt 25, 3) := by decide +kernel
theorem ddX_mix_54 : decode cX_mix 54 = .ok (.aload_n 0, 1) := by decide +kernel
theorem ddX_mix_55 : decode cX_mix 55 = .ok (.dup, 1) := by decide +kernel
theorem ddX_mix_56 : decode cX_mix 56 = .ok (.getfield 51, 3) := by decide +kernel
theorem ddX_mix_59 : decode cX_mix 59 = .ok (.iconst 1, 1) := by decide +kernel
theorem ddX_mix_60 : decode cX_mix 60 = .ok (.iadd, 1) := by decide +kernel
theorem ddX_mix_61 : decode cX_mix 61 = .ok (.putfield 51, 3) := by decide +kernel
theorem ddX_mix_64 : decode cX_mix 64 = .ok (.aload_n 0, 1) := by decide +kernel
theorem ddX_mix_65 : decode cX_mix 65 = .ok (.aload_n 0, 1) := by decide +kernel
theorem ddX_mix_66 : decode cX_mix 66 = .ok (.getfield 11, 3) := by decide +kernel
theorem ddX_mix_69 : decode cX_mix 69 = .ok (.iload_n 1, 1) := by decide +kernel
theorem ddX_mix_70 : decode cX_mix 70 = .ok (.aaload, 1) := by decide +kernel
theorem ddX_mix_71 : decode cX_mix 71 = .ok (.iconst 1, 1) := by decide +kernel
theorem ddX_mix_72 : decode cX_mix 72 = .ok (.invokevirtual 63, 3) := by decide +kernel
theorem ddX_mix_75 : decode cX_mix 75 = .ok (.return_, 1) := by decide +kernel
theorem ddX_mix_76 : decode cX_mix 76 = .ok (.iload 4, 2) := by decide +kernel
theorem ddX_mix_78 : decode cX_mix 78 = .ok (.ifCond .le 77, 3) := by decide +kernel
theorem ddX_mix_81 : decode cX_mix 81 = .ok (.iload 5, 2) := by decide +kernel
theorem ddX_mix_83 : decode cX_mix 83 = .ok (.ifCond .le 11, 3) := by decide +kernel
theorem ddX_mix_86 : decode cX_mix 86 = .ok (.aload_n 0, 1) := by decide +kernel
theorem ddX_mix_87 : decode cX_mix 87 = .ok (.iload_n 1, 1) := by decide +kernel
theorem ddX_mix_88 : decode cX_mix 88 = .ok (.invokevirtual 67, 3) := by decide +kernel
theorem ddX_mix_91 : decode cX_mix 91 = .ok (.goto 4, 3) := by decide +kernel
theorem ddX_mix_94 : decode cX_mix 94 = .ok (.iload_n 1, 1) := by decide +kernel
theorem ddX_mix_95 : decode cX_mix 95 = .ok (.istore 6, 2) := by decide +kernel
theorem ddX_mix_97 : decode cX_mix 97 = .ok (.aload_n 0, 1) := by decide +kernel
theorem ddX_mix_98 : decode cX_mix 98 = .ok (.getfield 19, 3) := by decide +kernel
theorem ddX_mix_101 : decode cX_mix 101 = .ok (.iload 6, 2) := by decide +kernel
theorem ddX_mix_103 : decode cX_mix 103 = .ok (.aaload, 1) := by decide +kernel
theorem ddX_mix_104 : decode cX_mix 104 = .ok (.aload_n 0, 1) := by decide +kernel
theorem ddX_mix_105 : decode cX_mix 105 = .ok (.getfield 11, 3) := by decide +kernel
theorem ddX_mix_108 : decode cX_mix 108 = .ok (.iload 6, 2) := by decide +kernel
theorem ddX_mix_110 : decode cX_mix 110 = .ok (.aaload, 1) := by decide +kernel
theorem ddX_mix_111 : decode cX_mix 111 = .ok (.aload_n 0, 1) := by decide +kernel
theorem ddX_mix_112 : decode cX_mix 112 = .ok (.getfield 33, 3) := by decide +kernel
theorem ddX_mix_115 : decode cX_mix 115 = .ok (.iload_n 2, 1) := by decide +kernel
theorem ddX_mix_116 : decode cX_mix 116 = .ok (.invokevirtual 71, 3) := by decide +kernel
theorem ddX_mix_119 : decode cX_mix 119 = .ok (.ifCond .eq 16, 3) := by decide +kernel
theorem ddX_mix_122 : decode cX_mix 122 = .ok (.aload_n 0, 1) := by decide +kernel
theorem ddX_mix_123 : decode cX_mix 123 = .ok (.iload 6, 2) := by decide +kernel
theorem ddX_mix_125 : decode cX_mix 125 = .ok (.iload_n 2, 1) := by decide +kernel
theorem ddX_mix_126 : decode cX_mix 126 = .ok (.iconst 1, 1) := by decide +kernel
theorem ddX_mix_127 : decode cX_mix 127 = .ok (.iadd, 1) := by decide +kernel
theorem ddX_mix_128 : decode cX_mix 128 = .ok (.iload_n 3, 1) := by decide +kernel
theorem ddX_mix_129 : decode cX_mix 129 = .ok (.invokevirtual 75, 3) := by decide +kernel
theorem ddX_mix_132 : decode cX_mix 132 = .ok (.goto 23, 3) := by decide +kernel
theorem ddX_mix_135 : decode cX_mix 135 = .ok (.aload_n 0, 1) := by decide +kernel
theorem ddX_mix_136 : decode cX_mix 136 = .ok (.aload_n 0, 1) := by decide +kernel
theorem ddX_mix_137 : decode cX_mix 137 = .ok (.getfield 11, 3) := by decide +kernel
theorem ddX_mix_140 : decode cX_mix 140 = .ok (.iload 6, 2) := by decide +kernel
theorem ddX_mix_142 : decode cX_mix 142 = .ok (.aaload, 1) := by decide +kernel
theorem ddX_mix_143 : decode cX_mix 143 = .ok (.iload 4, 2) := by decide +kernel
theorem ddX_mix_145 : decode cX_mix 145 = .ok (.iconst 1, 1) := by decide +kernel
theorem ddX_mix_146 : decode cX_mix 146 = .ok (.isub, 1) := by decide +kernel
theorem ddX_mix_147 : decode cX_mix 147 = .ok (.iload 5, 2) := by decide +kernel
theorem ddX_mix_149 : decode cX_mix 149 = .ok (.invokestatic 79, 3) := by decide +kernel
theorem ddX_mix_152 : decode cX_mix 152 = .ok (.invokevirtual 63, 3) := by decide +kernel
theorem ddX_mix_155 : decode cX_mix 155 = .ok (.iload 5, 2) := by decide +kernel
theorem ddX_mix_157 : decode cX_mix 157 = .ok (.ifCond .le 57, 3) := by decide +kernel
theorem ddX_mix_160 : decode cX_mix 160 = .ok (.aload_n 0, 1) := by decide +kernel
theorem ddX_mix_161 : decode cX_mix 161 = .ok (.getfield 23, 3) := by decide +kernel
theorem ddX_mix_164 : decode cX_mix 164 = .ok (.iload_n 1, 1) := by decide +kernel
theorem ddX_mix_165 : decode cX_mix 165 = .ok (.aaload, 1) := by decide +kernel
theorem ddX_mix_166 : decode cX_mix 166 = .ok (.aload_n 0, 1) := by decide +kernel
theorem ddX_mix_167 : decode cX_mix 167 = .ok (.getfield 11, 3) := by decide +kernel
theorem ddX_mix_170 : decode cX_mix 170 = .ok (.iload_n 1, 1) := by decide +kernel
theorem ddX_mix_171 : decode cX_mix 171 = .ok (.aaload, 1) := by decide +kernel
theorem ddX_mix_172 : decode cX_mix 172 = .ok (.aload_n 0, 1) := by decide +kernel
theorem ddX_mix_173 : decode cX_mix 173 = .ok (.getfield 37, 3) := by decide +kernel
theorem ddX_mix_176 : decode cX_mix 176 = .ok (.iload_n 3, 1) := by decide +kernel
theorem ddX_mix_177 : decode cX_mix 177 = .ok (.invokevirtual 71, 3) := by decide +kernel
theorem ddX_mix_180 : decode cX_mix 180 = .ok (.ifCond .eq 15, 3) := by decide +kernel
theorem ddX_mix_183 : decode cX_mix 183 = .ok (.aload_n 0, 1) := by decide +kernel
theorem ddX_mix_184 : decode cX_mix 184 = .ok (.iload_n 1, 1) := by decide +kernel
theorem ddX_mix_185 : decode cX_mix 185 = .ok (.iload_n 2, 1) := by decide +kernel
theorem ddX_mix_186 : decode cX_mix 186 = .ok (.iload_n 3, 1) := by decide +kernel
theorem ddX_mix_187 : decode cX_mix 187 = .ok (.iconst 1, 1) := by decide +kernel
theorem ddX_mix_188 : decode cX_mix 188 = .ok (.iadd, 1) := by decide +kernel
theorem ddX_mix_189 : decode cX_mix 189 = .ok (.invokevirtual 75, 3) := by decide +kernel
theorem ddX_mix_192 : decode cX_mix 192 = .ok (.goto 22, 3) := by decide +kernel
theorem ddX_mix_195 : decode cX_mix 195 = .ok (.aload_n 0, 1) := by decide +kernel
theorem ddX_mix_196 : decode cX_mix 196 = .ok (.aload_n 0, 1) := by decide +kernel
theorem ddX_mix_197 : decode cX_mix 197 = .ok (.getfield 11, 3) := by decide +kernel
theorem ddX_mix_200 : decode cX_mix 200 = .ok (.iload_n 1, 1) := by decide +kernel
theorem ddX_mix_201 : decode cX_mix 201 = .ok (.aaload, 1) := by decide +kernel
theorem ddX_mix_202 : decode cX_mix 202 = .ok (.iload 4, 2) := by decide +kernel
theorem ddX_mix_204 : decode cX_mix 204 = .ok (.iload 5, 2) := by decide +kernel
theorem ddX_mix_206 : decode cX_mix 206 = .ok (.iconst 1, 1) := by decide +kernel
theorem ddX_mix_207 : decode cX_mix 207 = .ok (.isub, 1) := by decide +kernel
theorem ddX_mix_208 : decode cX_mix 208 = .ok (.invokestatic 79, 3) := by decide +kernel
theorem ddX_mix_211 : decode cX_mix 211 = .ok (.invokevirtual 63, 3) := by decide +kernel
theorem ddX_mix_214 : decode cX_mix 214 = .ok (.return_, 1) := by decide +kernel
set_option maxHeartbeats 2000000 in
theorem zBX_mix_214 {self : Nat → Int32 → Int32 → Int32 → Mem → Option (Mem)} {G : GXM} {X : CxM} (hG : GokM G) (C : CoM G X cX_mix "HomeFreed$Mixer") (N : mLM X = 7) {d : Nat} (hD : dpM X = d) (hd : 5 ≤ d) (hS : ∀ (v0 : Nat) (v1 : Int32) (v2 : Int32) (v3 : Int32) (M : Mem) (q : Mem), self v0 v1 v2 v3 M = some q → ExM G X.2.1 (d - 1) 0 0 yX_mix cX_mix 7 none [.ref v0, .int v1, .int v2, .int v3] M none q)  {q : Mem} (E : EnM G X none none q 0 0) {M : Mem} (h : BX_mix_214 self M = some q) : ZM G X 214 [] [] M 0 0 := by
  unfold BX_mix_214 at h
  obtain rfl := Option.some.inj h
  exact zz_vret C E ddX_mix_214
set_option maxHeartbeats 2000000 in
theorem zBX_mix_155 {self : Nat → Int32 → Int32 → Int32 → Mem → Option (Mem)} {G : GXM} {X : CxM} (hG : GokM G) (C : CoM G X cX_mix "HomeFreed$Mixer") (N : mLM X = 7) {d : Nat} (hD : dpM X = d) (hd : 5 ≤ d) (hS : ∀ (v0 : Nat) (v1 : Int32) (v2 : Int32) (v3 : Int32) (M : Mem) (q : Mem), self v0 v1 v2 v3 M = some q → ExM G X.2.1 (d - 1) 0 0 yX_mix cX_mix 7 none [.ref v0, .int v1, .int v2, .int v3] M none q)  {q : Mem} (E : EnM G X none none q 0 0) {v0 : Nat} {v1 : Int32} {v2 : Int32} {v3 : Int32} {v4 : Int32} {v5 : Int32} {M : Mem} (h : BX_mix_155 self v0 v1 v2 v3 v4 v5 M = some q) : ZM G X 155 [(0, .ref v0), (1, .int v1), (2, .int v2), (3, .int v3), (4, .int v4), (5, .int v5)] [] M 0 0 := by
  unfold BX_mix_155 at h
  refine zz_iload C 5 ddX_mix_155 rfl ?_
  refine zz_if_le (tgt := 214) C ddX_mix_157 rfl (fun hc => ?_) (fun hc => ?_)
  · replace h := iteT h hc
    refine zz_loc (L1 := []) [] rfl ?_
    exact zBX_mix_214 hG C N hD hd hS E h
  · replace h := iteF h hc
    refine zz_aload_n C 0 ddX_mix_160 rfl rfl ?_
    obtain ⟨h1, h⟩ := gdN h
    obtain ⟨h2, h⟩ := gdN h
    refine zz_getr C ddX_mix_161 fl_X_23 rfl h1 (of_decide_eq_true h2) ?_
    refine zz_iload_n C 1 ddX_mix_164 rfl rfl ?_
    obtain ⟨h3, h⟩ := gdN h
    obtain ⟨h4, h⟩ := gdN h
    refine zz_aaload (t := 105) C ddX_mix_165 (by decide) (fun _ => rfl) h3 (of_decide_eq_true h4) ?_
    refine zz_aload_n C 0 ddX_mix_166 rfl rfl ?_
    obtain ⟨h5, h⟩ := gdN h
    refine zz_getr C ddX_mix_167 fl_X_11 rfl h1 (of_decide_eq_true h5) ?_
    refine zz_iload_n C 1 ddX_mix_170 rfl rfl ?_
    obtain ⟨h6, h⟩ := gdN h
    obtain ⟨h7, h⟩ := gdN h
    refine zz_aaload (t := 103) C ddX_mix_171 (by decide) (fun _ => rfl) h6 (of_decide_eq_true h7) ?_
    refine zz_aload_n C 0 ddX_mix_172 rfl rfl ?_
    obtain ⟨h8, h⟩ := gdN h
    refine zz_getr C ddX_mix_173 fl_X_37 rfl h1 (of_decide_eq_true h8) ?_
    refine zz_iload_n C 3 ddX_mix_176 rfl rfl ?_
    obtain ⟨h10, h⟩ := gdN h
    obtain ⟨q9, hq9, h⟩ := bindN h
    refine zz_callV0 (As := [.ref (grM M (grM M v0 0) (Int32.toNatClampNeg v1)), .ref (grM M v0 4), .int v3]) C ddX_mix_177 wd_1016 my_G_doStep mv_G_doStep ⟨_, rfl, rfl⟩ (xG_doStep hG (d - 1) (by omega) hq9) (by omega) h10 rfl rfl (Nat.le_of_ble_eq_true rfl) ?_
    refine zz_if_eq (tgt := 195) C ddX_mix_180 rfl (fun hc => ?_) (fun hc => ?_)
    · replace h := iteT h hc
      refine zz_aload_n C 0 ddX_mix_195 rfl rfl ?_
      refine zz_aload_n C 0 ddX_mix_196 rfl rfl ?_
      obtain ⟨h11, h⟩ := gdN h
      obtain ⟨h12, h⟩ := gdN h
      refine zz_getr C ddX_mix_197 fl_X_11 rfl h11 (of_decide_eq_true h12) ?_
      refine zz_iload_n C 1 ddX_mix_200 rfl rfl ?_
      obtain ⟨h13, h⟩ := gdN h
      obtain ⟨h14, h⟩ := gdN h
      refine zz_aaload (t := 103) C ddX_mix_201 (by decide) (fun _ => rfl) h13 (of_decide_eq_true h14) ?_
      refine zz_iload C 4 ddX_mix_202 rfl ?_
      refine zz_iload C 5 ddX_mix_204 rfl ?_
      refine zz_iconst (v := 1) C ddX_mix_206 (by decide) ?_
      refine zz_isub C ddX_mix_207 ?_
      obtain ⟨q15, hq15, h⟩ := bindN h
      refine zz_callS0 (As := [.int v4, .int (v5 - 1)]) C ddX_mix_208 wd_1018 my_X_waysOf mv_X_waysOf (xX_waysOf hG (d - 1) (by omega) hq15) (by omega) rfl rfl (Nat.le_of_ble_eq_true rfl) ?_
      obtain ⟨h17, h⟩ := gdN h
      obtain ⟨q16, hq16, h⟩ := bindN h
      refine zz_callV0 (As := [.ref (grM q9.2 (grM q9.2 v0 0) (Int32.toNatClampNeg v1)), .int q15.1]) C ddX_mix_211 wd_1000 my_X_tally mv_X_tally ⟨_, rfl, rfl⟩ (xX_tally hG (d - 1) (by omega) hq16) (by omega) h17 rfl rfl (Nat.le_of_ble_eq_true rfl) ?_
      refine zz_loc (L1 := []) [] rfl ?_
      exact zBX_mix_214 hG C N hD hd hS E h
    · replace h := iteF h hc
      refine zz_aload_n C 0 ddX_mix_183 rfl rfl ?_
      refine zz_iload_n C 1 ddX_mix_184 rfl rfl ?_
      refine zz_iload_n C 2 ddX_mix_185 rfl rfl ?_
      refine zz_iload_n C 3 ddX_mix_186 rfl rfl ?_
      refine zz_iconst (v := 1) C ddX_mix_187 (by decide) ?_
      refine zz_iadd C ddX_mix_188 ?_
      obtain ⟨h19, h⟩ := gdN h
      obtain ⟨q18, hq18, h⟩ := bindN h
      refine zz_callV0 (As := [.int v1, .int v2, .int (v3 + 1)]) C ddX_mix_189 wd_1017 my_X_mix mv_X_mix ⟨_, rfl, rfl⟩ (hS _ _ _ _ _ _ hq18) (by omega) h19 rfl rfl (Nat.le_of_ble_eq_true rfl) ?_
      refine zz_goto (tgt := 214) C ddX_mix_192 rfl ?_
      refine zz_loc (L1 := []) [] rfl ?_
      exact zBX_mix_214 hG C N hD hd hS E h
set_option maxHeartbeats 2000000 in
theorem zBX_mix_95 {self : Nat → Int32 → Int32 → Int32 → Mem → Option (Mem)} {G : GXM} {X : CxM} (hG : GokM G) (C : CoM G X cX_mix "HomeFreed$Mixer") (N : mLM X = 7) {d : Nat} (hD : dpM X = d) (hd : 5 ≤ d) (hS : ∀ (v0 : Nat) (v1 : Int32) (v2 : Int32) (v3 : Int32) (M : Mem) (q : Mem), self v0 v1 v2 v3 M = some q → ExM G X.2.1 (d - 1) 0 0 yX_mix cX_mix 7 none [.ref v0, .int v1, .int v2, .int v3] M none q)  {q : Mem} (E : EnM G X none none q 0 0) {v0 : Nat} {v1 : Int32} {v2 : Int32} {v3 : Int32} {v4 : Int32} {v5 : Int32} {w0 : Int32} {M : Mem} (h : BX_mix_95 self v0 v1 v2 v3 v4 v5 w0 M = some q) : ZM G X 95 [(0, .ref v0), (1, .int v1), (2, .int v2), (3, .int v3), (4, .int v4), (5, .int v5)] [.int w0] M 0 0 := by
  unfold BX_mix_95 at h
  refine zz_istore (L1 := [(6, .int w0), (0, .ref v0), (1, .int v1), (2, .int v2), (3, .int v3), (4, .int v4), (5, .int v5)]) C ddX_mix_95 N (by decide) rfl ?_
  refine zz_aload_n C 1 ddX_mix_97 rfl rfl ?_
  obtain ⟨h1, h⟩ := gdN h
  obtain ⟨h2, h⟩ := gdN h
  refine zz_getr C ddX_mix_98 fl_X_19 rfl h1 (of_decide_eq_true h2) ?_
  refine zz_iload C 0 ddX_mix_101 rfl ?_
  obtain ⟨h3, h⟩ := gdN h
  obtain ⟨h4, h⟩ := gdN h
  refine zz_aaload (t := 105) C ddX_mix_103 (by decide) (fun _ => rfl) h3 (of_decide_eq_true h4) ?_
  refine zz_aload_n C 1 ddX_mix_104 rfl rfl ?_
  obtain ⟨h5, h⟩ := gdN h
  refine zz_getr C ddX_mix_105 fl_X_11 rfl h1 (of_decide_eq_true h5) ?_
  refine zz_iload C 0 ddX_mix_108 rfl ?_
  obtain ⟨h6, h⟩ := gdN h
  obtain ⟨h7, h⟩ := gdN h
  refine zz_aaload (t := 103) C ddX_mix_110 (by decide) (fun _ => rfl) h6 (of_decide_eq_true h7) ?_
  refine zz_aload_n C 1 ddX_mix_111 rfl rfl ?_
  obtain ⟨h8, h⟩ := gdN h
  refine zz_getr C ddX_mix_112 fl_X_33 rfl h1 (of_decide_eq_true h8) ?_
  refine zz_iload_n C 3 ddX_mix_115 rfl rfl ?_
  obtain ⟨h10, h⟩ := gdN h
  obtain ⟨q9, hq9, h⟩ := bindN h
  refine zz_callV0 (As := [.ref (grM M (grM M v0 0) (Int32.toNatClampNeg w0)), .ref (grM M v0 3), .int v2]) C ddX_mix_116 wd_1016 my_G_doStep mv_G_doStep ⟨_, rfl, rfl⟩ (xG_doStep hG (d - 1) (by omega) hq9) (by omega) h10 rfl rfl (Nat.le_of_ble_eq_true rfl) ?_
  refine zz_if_eq (tgt := 135) C ddX_mix_119 rfl (fun hc => ?_) (fun hc => ?_)
  · replace h := iteT h hc
    refine zz_aload_n C 1 ddX_mix_135 rfl rfl ?_
    refine zz_aload_n C 1 ddX_mix_136 rfl rfl ?_
    obtain ⟨h11, h⟩ := gdN h
    obtain ⟨h12, h⟩ := gdN h
    refine zz_getr C ddX_mix_137 fl_X_11 rfl h11 (of_decide_eq_true h12) ?_
    refine zz_iload C 0 ddX_mix_140 rfl ?_
    obtain ⟨h13, h⟩ := gdN h
    obtain ⟨h14, h⟩ := gdN h
    refine zz_aaload (t := 103) C ddX_mix_142 (by decide) (fun _ => rfl) h13 (of_decide_eq_true h14) ?_
    refine zz_iload C 5 ddX_mix_143 rfl ?_
    refine zz_iconst (v := 1) C ddX_mix_145 (by decide) ?_
    refine zz_isub C ddX_mix_146 ?_
    refine zz_iload C 6 ddX_mix_147 rfl ?_
    obtain ⟨q15, hq15, h⟩ := bindN h
    refine zz_callS0 (As := [.int (v4 - 1), .int v5]) C ddX_mix_149 wd_1018 my_X_waysOf mv_X_waysOf (xX_waysOf hG (d - 1) (by omega) hq15) (by omega) rfl rfl (Nat.le_of_ble_eq_true rfl) ?_
    obtain ⟨h17, h⟩ := gdN h
    obtain ⟨q16, hq16, h⟩ := bindN h
    refine zz_callV0 (As := [.ref (grM q9.2 (grM q9.2 v0 0) (Int32.toNatClampNeg w0)), .int q15.1]) C ddX_mix_152 wd_1000 my_X_tally mv_X_tally ⟨_, rfl, rfl⟩ (xX_tally hG (d - 1) (by omega) hq16) (by omega) h17 rfl rfl (Nat.le_of_ble_eq_true rfl) ?_
    refine zz_loc (L1 := [(0, .ref v0), (1, .int v1), (2, .int v2), (3, .int v3), (4, .int v4), (5, .int v5)]) [1, 2, 3, 4, 5, 6] rfl ?_
    exact zBX_mix_155 hG C N hD hd hS E h
  · replace h := iteF h hc
    refine zz_aload_n C 1 ddX_mix_122 rfl rfl ?_
    refine zz_iload C 0 ddX_mix_123 rfl ?_
    refine zz_iload_n C 3 ddX_mix_125 rfl rfl ?_
    refine zz_iconst (v := 1) C ddX_mix_126 (by decide) ?_
    refine zz_iadd C ddX_mix_127 ?_
    refine zz_iload_n C 4 ddX_mix_128 rfl rfl ?_
    obtain ⟨h19, h⟩ := gdN h
    obtain ⟨q18, hq18, h⟩ := bindN h
    refine zz_callV0 (As := [.int w0, .int (v2 + 1), .int v3]) C ddX_mix_129 wd_1017 my_X_mix mv_X_mix ⟨_, rfl, rfl⟩ (hS _ _ _ _ _ _ hq18) (by omega) h19 rfl rfl (Nat.le_of_ble_eq_true rfl) ?_
    refine zz_goto (tgt := 155) C ddX_mix_132 rfl ?_
    refine zz_loc (L1 := [(0, .ref v0), (1, .int v1), (2, .int v2), (3, .int v3), (4, .int v4), (5, .int v5)]) [1, 2, 3, 4, 5, 6] rfl ?_
    exact zBX_mix_155 hG C N hD hd hS E h
set_option maxHeartbeats 2000000 in
theorem zBX_mix_76 {self : Nat → Int32 → Int32 → Int32 → Mem → Option (Mem)} {G : GXM} {X : CxM} (hG : GokM G) (C : CoM G X cX_mix "HomeFreed$Mixer") (N : mLM X = 7) {d : Nat} (hD : dpM X = d) (hd : 5 ≤ d) (hS : ∀ (v0 : Nat) (v1 : Int32) (v2 : Int32) (v3 : Int32) (M : Mem) (q : Mem), self v0 v1 v2 v3 M = some q → ExM G X.2.1 (d - 1) 0 0 yX_mix cX_mix 7 none [.ref v0, .int v1, .int v2, .int v3] M none q)  {q : Mem} (E : EnM G X none none q 0 0) {v0 : Nat} {v1 : Int32} {v2 : Int32} {v3 : Int32} {v4 : Int32} {v5 : Int32} {M : Mem} (h : BX_mix_76 self v0 v1 v2 v3 v4 v5 M = some q) : ZM G X 76 [(0, .ref v0), (1, .int v1), (2, .int v2), (3, .int v3), (4, .int v4), (5, .int v5)] [] M 0 0 := by
  unfold BX_mix_76 at h
  refine zz_iload C 4 ddX_mix_76 rfl ?_
  refine zz_if_le (tgt := 155) C ddX_mix_78 rfl (fun hc => ?_) (fun hc => ?_)
  · replace h := iteT h hc
    exact zBX_mix_155 hG C N hD hd hS E h
  · replace h := iteF h hc
    refine zz_iload C 5 ddX_mix_81 rfl ?_
    refine zz_if_le (tgt := 94) C ddX_mix_83 rfl (fun hc => ?_) (fun hc => ?_)
    · replace h := iteT h hc
      refine zz_iload_n C 1 ddX_mix_94 rfl rfl ?_
      exact zBX_mix_95 hG C N hD hd hS E h
    · replace h := iteF h hc
      refine zz_aload_n C 0 ddX_mix_86 rfl rfl ?_
      refine zz_iload_n C 1 ddX_mix_87 rfl rfl ?_
      obtain ⟨h2, h⟩ := gdN h
      obtain ⟨q1, hq1, h⟩ := bindN h
      refine zz_callV0 (As := [.int v1]) C ddX_mix_88 wd_1007 my_X_deepen mv_X_deepen ⟨_, rfl, rfl⟩ (xX_deepen hG (d - 1) (by omega) hq1) (by omega) h2 rfl rfl (Nat.le_of_ble_eq_true rfl) ?_
      refine zz_goto (tgt := 95) C ddX_mix_91 rfl ?_
      exact zBX_mix_95 hG C N hD hd hS E h
set_option maxHeartbeats 2000000 in
theorem zBX_mix_21 {self : Nat → Int32 → Int32 → Int32 → Mem → Option (Mem)} {G : GXM} {X : CxM} (hG : GokM G) (C : CoM G X cX_mix "HomeFreed$Mixer") (N : mLM X = 7) {d : Nat} (hD : dpM X = d) (hd : 5 ≤ d) (hS : ∀ (v0 : Nat) (v1 : Int32) (v2 : Int32) (v3 : Int32) (M : Mem) (q : Mem), self v0 v1 v2 v3 M = some q → ExM G X.2.1 (d - 1) 0 0 yX_mix cX_mix 7 none [.ref v0, .int v1, .int v2, .int v3] M none q)  {q : Mem} (E : EnM G X none none q 0 0) {M : Mem} (h : BX_mix_21 self M = some q) : ZM G X 21 [] [] M 0 0 := by
  unfold BX_mix_21 at h
  obtain rfl := Option.some.inj h
  exact zz_vret C E ddX_mix_21
set_option maxHeartbeats 2000000 in
theorem xX_mix {G : GXM} {l : Launch} (hG : GokM G) : ∀ (f d : Nat) (hd : 5 + f ≤ d) (v0 : Nat) (v1 : Int32) (v2 : Int32) (v3 : Int32) (M : Mem) (q : Mem) (h : fX_mix f v0 v1 v2 v3 M = some q), ExM G l d 0 0 yX_mix cX_mix 7 none [.ref v0, .int v1, .int v2, .int v3] M none q := by
  intro f
  induction f with
  | zero => intro d hd v0 v1 v2 v3 M q h; cases h
  | succ f ih =>
  intro d hd0 v0 v1 v2 v3 M q h
  refine ex_of hG (by decide) (Nat.le_of_ble_eq_true rfl) ?_
  intro X hl C E N hD hn
  have hS := fun v0 v1 v2 v3 M q h => hl ▸ ih (d - 1) (by omega) v0 v1 v2 v3 M q h
  have hd : 5 ≤ d := by omega
  show ZM G X 0 [(0, .ref v0), (1, .int v1), (2, .int v2), (3, .int v3)] [] M 0 0
  have h : gX_mix (fX_mix f) v0 v1 v2 v3 M = some q := h
  unfold gX_mix at h
  refine zz_iload_n C 1 ddX_mix_0 rfl rfl ?_
  refine zz_aload_n C 0 ddX_mix_1 rfl rfl ?_
  obtain ⟨h1, h⟩ := gdN h
  obtain ⟨h2, h⟩ := gdN h
  refine zz_getr C ddX_mix_2 fl_X_11 rfl h1 (of_decide_eq_true h2) ?_
  obtain ⟨h3, h⟩ := gdN h
  refine zz_alenR (t := 103) C ddX_mix_5 (by decide) (fun _ => rfl) h3 ?_
  refine zz_icmp_ge (tgt := 21) C ddX_mix_6 rfl (fun hc => ?_) (fun hc => ?_)
  · replace h := iteT h hc
    refine zz_loc (L1 := []) [] rfl ?_
    exact zBX_mix_21 hG C N hD hd hS E h
  · replace h := iteF h hc
    refine zz_iload_n C 2 ddX_mix_9 rfl rfl ?_
    refine zz_bipush (v := 6) C ddX_mix_10 (by decide) ?_
    refine zz_icmp_gt (tgt := 21) C ddX_mix_12 rfl (fun hc => ?_) (fun hc => ?_)
    · replace h := iteT h hc
      refine zz_loc (L1 := []) [] rfl ?_
      exact zBX_mix_21 hG C N hD hd hS E h
    · replace h := iteF h hc
      refine zz_iload_n C 3 ddX_mix_15 rfl rfl ?_
      refine zz_bipush (v := 6) C ddX_mix_16 (by decide) ?_
      refine zz_icmp_le (tgt := 22) C ddX_mix_18 rfl (fun hc => ?_) (fun hc => ?_)
      · replace h := iteT h hc
        refine zz_aload_n C 0 ddX_mix_22 rfl rfl ?_
        obtain ⟨h4, h⟩ := gdN h
        refine zz_getr C ddX_mix_23 fl_X_33 rfl h1 (of_decide_eq_true h4) ?_
        obtain ⟨h5, h⟩ := gdN h
        refine zz_geti C ddX_mix_26 fl_X_60 rfl h5 ?_
        refine zz_iload_n C 2 ddX_mix_29 rfl rfl ?_
        refine zz_isub C ddX_mix_30 ?_
        refine zz_istore (L1 := [(4, .int ((giM M (grM M v0 3) 3) - v2)), (0, .ref v0), (1, .int v1), (2, .int v2), (3, .int v3)]) C ddX_mix_31 N (by decide) rfl ?_
        refine zz_aload_n C 1 ddX_mix_33 rfl rfl ?_
        obtain ⟨h6, h⟩ := gdN h
        refine zz_getr C ddX_mix_34 fl_X_37 rfl h1 (of_decide_eq_true h6) ?_
        obtain ⟨h7, h⟩ := gdN h
        refine zz_geti C ddX_mix_37 fl_X_60 rfl h7 ?_
        refine zz_iload_n C 4 ddX_mix_40 rfl rfl ?_
        refine zz_isub C ddX_mix_41 ?_
        refine zz_istore (L1 := [(5, .int ((giM M (grM M v0 4) 3) - v3)), (4, .int ((giM M (grM M v0 3) 3) - v2)), (0, .ref v0), (1, .int v1), (2, .int v2), (3, .int v3)]) C ddX_mix_42 N (by decide) rfl ?_
        refine zz_iload C 1 ddX_mix_44 rfl ?_
        refine zz_if_gt (tgt := 76) C ddX_mix_46 rfl (fun hc => ?_) (fun hc => ?_)
        · replace h := iteT h hc
          refine zz_loc (L1 := [(0, .ref v0), (1, .int v1), (2, .int v2), (3, .int v3), (4, .int ((giM M (grM M v0 3) 3) - v2)), (5, .int ((giM M (grM M v0 4) 3) - v3))]) [2, 3, 4, 5, 1, 0] rfl ?_
          exact zBX_mix_76 hG C N hD hd hS E h
        · replace h := iteF h hc
          refine zz_iload C 0 ddX_mix_49 rfl ?_
          refine zz_if_gt (tgt := 76) C ddX_mix_51 rfl (fun hc => ?_) (fun hc => ?_)
          · replace h := iteT h hc
            refine zz_loc (L1 := [(0, .ref v0), (1, .int v1), (2, .int v2), (3, .int v3), (4, .int ((giM M (grM M v0 3) 3) - v2)), (5, .int ((giM M (grM M v0 4) 3) - v3))]) [2, 3, 4, 5, 1, 0] rfl ?_
            exact zBX_mix_76 hG C N hD hd hS E h
          · replace h := iteF h hc
            refine zz_aload_n C 2 ddX_mix_54 rfl rfl ?_
            refine zz_dup C ddX_mix_55 rfl ?_
            refine zz_geti C ddX_mix_56 fl_X_51 rfl h1 ?_
            refine zz_iconst (v := 1) C ddX_mix_59 (by decide) ?_
            refine zz_iadd C ddX_mix_60 ?_
            refine zz_puti C ddX_mix_61 fl_X_51 rfl rfl rfl h1 ?_
            refine zz_aload_n C 2 ddX_mix_64 rfl rfl ?_
            refine zz_aload_n C 2 ddX_mix_65 rfl rfl ?_
            refine zz_getr C ddX_mix_66 fl_X_11 rfl h1 (of_decide_eq_true h2) ?_
            refine zz_iload_n C 3 ddX_mix_69 rfl rfl ?_
            obtain ⟨h8, h⟩ := gdN h
            obtain ⟨h9, h⟩ := gdN h
            refine zz_aaload (t := 103) C ddX_mix_70 (by decide) (fun _ => rfl) h8 (of_decide_eq_true h9) ?_
            refine zz_iconst (v := 1) C ddX_mix_71 (by decide) ?_
            obtain ⟨q10, hq10, h⟩ := bindN h
            refine zz_callV0 (As := [.ref (grM M (grM M v0 0) (Int32.toNatClampNeg v1)), .int 1]) C ddX_mix_72 wd_1000 my_X_tally mv_X_tally ⟨_, rfl, rfl⟩ (xX_tally hG (d - 1) (by omega) hq10) (by omega) h1 rfl rfl (Nat.le_of_ble_eq_true rfl) ?_
            obtain rfl := Option.some.inj h
            exact zz_vret C E ddX_mix_75
      · replace h := iteF h hc
        refine zz_loc (L1 := []) [] rfl ?_
        exact zBX_mix_21 hG C N hD hd hS E h
theorem ddA_ways_0 : decode cA_ways 0 = .ok (.aload_n 0, 1) := by decide +kernel
theorem ddA_ways_1 : decode cA_ways 1 = .ok (.getfield 28, 3) := by decide +kernel
theorem ddA_ways_4 : decode cA_ways 4 = .ok (.invokevirtual 132, 3) := by decide +kernel
theorem ddA_ways_7 : decode cA_ways 7 = .ok (.ifCond .eq 33, 3) := by decide +kernel
theorem ddA_ways_10 : decode cA_ways 10 = .ok (.aload_n 0, 1) := by decide +kernel
theorem ddA_ways_11 : decode cA_ways 11 = .ok (.iload_n 1, 1) := by decide +kernel
theorem ddA_ways_12 : decode cA_ways 12 = .ok (.invokevirtual 248, 3) := by decide +kernel
theorem ddA_ways_15 : decode cA_ways 15 = .ok (.ifCond .eq 25, 3) := by decide +kernel
theorem ddA_ways_18 : decode cA_ways 18 = .ok (.aload_n 0, 1) := by decide +kernel
theorem ddA_ways_19 : decode cA_ways 19 = .ok (.iload_n 2, 1) := by decide +kernel
theorem ddA_ways_20 : decode cA_ways 20 = .ok (.invokevirtual 248, 3) := by decide +kernel
theorem ddA_ways_23 : decode cA_ways 23 = .ok (.ifCond .eq 17, 3) := by decide +kernel
theorem ddA_ways_26 : decode cA_ways 26 = .ok (.iload_n 1, 1) := by decide +kernel
theorem ddA_ways_27 : decode cA_ways 27 = .ok (.iload_n 2, 1) := by decide +kernel
theorem ddA_ways_28 : decode cA_ways 28 = .ok (.if_icmp .eq 12, 3) := by decide +kernel
theorem ddA_ways_31 : decode cA_ways 31 = .ok (.iload_n 3, 1) := by decide +kernel
theorem ddA_ways_32 : decode cA_ways 32 = .ok (.ifCond .lt 8, 3) := by decide +kernel
theorem ddA_ways_35 : decode cA_ways 35 = .ok (.iload_n 3, 1) := by decide +kernel
theorem ddA_ways_36 : decode cA_ways 36 = .ok (.iconst 3, 1) := by decide +kernel
theorem ddA_ways_37 : decode cA_ways 37 = .ok (.if_icmp .le 5, 3) := by decide +kernel
theorem ddA_ways_40 : decode cA_ways 40 = .ok (.iconst (-1), 1) := by decide +kernel
theorem ddA_ways_41 : decode cA_ways 41 = .ok (.ireturn, 1) := by decide +kernel
theorem ddA_ways_42 : decode cA_ways 42 = .ok (.aload_n 0, 1) := by decide +kernel
theorem ddA_ways_43 : decode cA_ways 43 = .ok (.getfield 37, 3) := by decide +kernel
theorem ddA_ways_46 : decode cA_ways 46 = .ok (.iload_n 1, 1) := by decide +kernel
theorem ddA_ways_47 : decode cA_ways 47 = .ok (.aaload, 1) := by decide +kernel
theorem ddA_ways_48 : decode cA_ways 48 = .ok (.invokevirtual 346, 3) := by decide +kernel
theorem ddA_ways_51 : decode cA_ways 51 = .ok (.ifCond .eq 15, 3) := by decide +kernel
theorem ddA_ways_54 : decode cA_ways 54 = .ok (.aload_n 0, 1) := by decide +kernel
theorem ddA_ways_55 : decode cA_ways 55 = .ok (.getfield 37, 3) := by decide +kernel
theorem ddA_ways_58 : decode cA_ways 58 = .ok (.iload_n 2, 1) := by decide +kernel
theorem ddA_ways_59 : decode cA_ways 59 = .ok (.aaload, 1) := by decide +kernel
theorem ddA_ways_60 : decode cA_ways 60 = .ok (.invokevirtual 346, 3) := by decide +kernel
theorem ddA_ways_63 : decode cA_ways 63 = .ok (.ifCond .ne 5, 3) := by decide +kernel
theorem ddA_ways_66 : decode cA_ways 66 = .ok (.iconst (-1), 1) := by decide +kernel
theorem ddA_ways_67 : decode cA_ways 67 = .ok (.ireturn, 1) := by decide +kernel
theorem ddA_ways_68 : decode cA_ways 68 = .ok (.aload_n 0, 1) := by decide +kernel
theorem ddA_ways_69 : decode cA_ways 69 = .ok (.getfield 80, 3) := by decide +kernel
theorem ddA_ways_72 : decode cA_ways 72 = .ok (.aload_n 0, 1) := by decide +kernel
theorem ddA_ways_73 : decode cA_ways 73 = .ok (.getfield 55, 3) := by decide +kernel
theorem ddA_ways_76 : decode cA_ways 76 = .ok (.aload_n 0, 1) := by decide +kernel
theorem ddA_ways_77 : decode cA_ways 77 = .ok (.getfield 37, 3) := by decide +kernel
theorem ddA_ways_80 : decode cA_ways 80 = .ok (.iload_n 1, 1) := by decide +kernel
theorem ddA_ways_81 : decode cA_ways 81 = .ok (.aaload, 1) := by decide +kernel
theorem ddA_ways_82 : decode cA_ways 82 = .ok (.aload_n 0, 1) := by decide +kernel
theorem ddA_ways_83 : decode cA_ways 83 = .ok (.getfield 37, 3) := by decide +kernel
theorem ddA_ways_86 : decode cA_ways 86 = .ok (.iload_n 2, 1) := by decide +kernel
theorem ddA_ways_87 : decode cA_ways 87 = .ok (.aaload, 1) := by decide +kernel
theorem ddA_ways_88 : decode cA_ways 88 = .ok (.invokevirtual 349, 3) := by decide +kernel
theorem ddA_ways_91 : decode cA_ways 91 = .ok (.aload_n 0, 1) := by decide +kernel
theorem ddA_ways_92 : decode cA_ways 92 = .ok (.getfield 80, 3) := by decide +kernel
theorem ddA_ways_95 : decode cA_ways 95 = .ok (.iconst 0, 1) := by decide +kernel
theorem ddA_ways_96 : decode cA_ways 96 = .ok (.iconst 0, 1) := by decide +kernel
theorem ddA_ways_97 : decode cA_ways 97 = .ok (.iconst 0, 1) := by decide +kernel
theorem ddA_ways_98 : decode cA_ways 98 = .ok (.invokevirtual 353, 3) := by decide +kernel
theorem ddA_ways_101 : decode cA_ways 101 = .ok (.iload_n 3, 1) := by decide +kernel
theorem ddA_ways_102 : decode cA_ways 102 = .ok (.tableswitch 50 0 2 #[26, 34, 42], 26) := by decide +kernel
theorem ddA_ways_128 : decode cA_ways 128 = .ok (.aload_n 0, 1) := by decide +kernel
theorem ddA_ways_129 : decode cA_ways 129 = .ok (.getfield 80, 3) := by decide +kernel
theorem ddA_ways_132 : decode cA_ways 132 = .ok (.getfield 357, 3) := by decide +kernel
theorem ddA_ways_135 : decode cA_ways 135 = .ok (.ireturn, 1) := by decide +kernel
theorem ddA_ways_136 : decode cA_ways 136 = .ok (.aload_n 0, 1) := by decide +kernel
theorem ddA_ways_137 : decode cA_ways 137 = .ok (.getfield 80, 3) := by decide +kernel
theorem ddA_ways_140 : decode cA_ways 140 = .ok (.getfield 360, 3) := by decide +kernel
theorem ddA_ways_143 : decode cA_ways 143 = .ok (.ireturn, 1) := by decide +kernel
theorem ddA_ways_144 : decode cA_ways 144 = .ok (.aload_n 0, 1) := by decide +kernel
theorem ddA_ways_145 : decode cA_ways 145 = .ok (.getfield 80, 3) := by decide +kernel
theorem ddA_ways_148 : decode cA_ways 148 = .ok (.getfield 363, 3) := by decide +kernel
theorem ddA_ways_151 : decode cA_ways 151 = .ok (.ireturn, 1) := by decide +kernel
theorem ddA_ways_152 : decode cA_ways 152 = .ok (.aload_n 0, 1) := by decide +kernel
theorem ddA_ways_153 : decode cA_ways 153 = .ok (.getfield 80, 3) := by decide +kernel
theorem ddA_ways_156 : decode cA_ways 156 = .ok (.getfield 366, 3) := by decide +kernel
theorem ddA_ways_159 : decode cA_ways 159 = .ok (.ireturn, 1) := by decide +kernel
set_option maxHeartbeats 2000000 in
theorem zBA_ways_66 {G : GXM} {X : CxM} (hG : GokM G) (C : CoM G X cA_ways "HomeFreed") (N : mLM X = 4) {d : Nat} (hD : dpM X = d) (hd : 26 ≤ d)  {q : Int32 × Mem} (E : EnM G X (some .int) (some (.int q.1)) q.2 0 0) {M : Mem} (h : BA_ways_66 M = some q) : ZM G X 66 [] [] M 0 0 := by
  unfold BA_ways_66 at h
  refine zz_iconst (v := (-1)) C ddA_ways_66 (by decide) ?_
  obtain rfl := Option.some.inj h
  exact zz_iret C E ddA_ways_67
set_option maxHeartbeats 2000000 in
theorem zBA_ways_40 {G : GXM} {X : CxM} (hG : GokM G) (C : CoM G X cA_ways "HomeFreed") (N : mLM X = 4) {d : Nat} (hD : dpM X = d) (hd : 26 ≤ d)  {q : Int32 × Mem} (E : EnM G X (some .int) (some (.int q.1)) q.2 0 0) {M : Mem} (h : BA_ways_40 M = some q) : ZM G X 40 [] [] M 0 0 := by
  unfold BA_ways_40 at h
  refine zz_iconst (v := (-1)) C ddA_ways_40 (by decide) ?_
  obtain rfl := Option.some.inj h
  exact zz_iret C E ddA_ways_41
set_option maxHeartbeats 2000000 in
theorem xA_ways {G : GXM} {l : Launch} (hG : GokM G) (d : Nat) (hd : 26 ≤ d) {v0 : Nat} {v1 : Int32} {v2 : Int32} {v3 : Int32} {M : Mem} {q : Int32 × Mem} (h : fA_ways v0 v1 v2 v3 M = some q) : ExM G l d 0 0 yA_ways cA_ways 4 (some .int) [.ref v0, .int v1, .int v2, .int v3] M (some (.int q.1)) q.2 := by
  refine ex_of hG (by decide) (Nat.le_of_ble_eq_true rfl) ?_
  intro X hl C E N hD hn
  show ZM G X 0 [(0, .ref v0), (1, .int v1), (2, .int v2), (3, .int v3)] [] M 0 0
  unfold fA_ways at h
  refine zz_aload_n C 0 ddA_ways_0 rfl rfl ?_
  obtain ⟨h1, h⟩ := gdN h
  obtain ⟨h2, h⟩ := gdN h
  refine zz_getr C ddA_ways_1 fl_A_28 rfl h1 (of_decide_eq_true h2) ?_
  obtain ⟨h4, h⟩ := gdN h
  obtain ⟨q3, hq3, h⟩ := bindN h
  refine zz_callV0 (As := []) C ddA_ways_4 wd_566 my_U_areTold mv_U_areTold ⟨_, rfl, rfl⟩ (xU_areTold hG (d - 1) (by omega) hq3) (by omega) h4 rfl rfl (Nat.le_of_ble_eq_true rfl) ?_
  refine zz_if_eq (tgt := 40) C ddA_ways_7 rfl (fun hc => ?_) (fun hc => ?_)
  · replace h := iteT h hc
    refine zz_loc (L1 := []) [] rfl ?_
    exact zBA_ways_40 hG C N hD hd E h
  · replace h := iteF h hc
    refine zz_aload_n C 0 ddA_ways_10 rfl rfl ?_
    refine zz_iload_n C 1 ddA_ways_11 rfl rfl ?_
    obtain ⟨h6, h⟩ := gdN h
    obtain ⟨q5, hq5, h⟩ := bindN h
    refine zz_callV0 (As := [.int v1]) C ddA_ways_12 wd_813 my_A_isScript mv_A_isScript ⟨_, rfl, rfl⟩ (xA_isScript hG (d - 1) (by omega) hq5) (by omega) h6 rfl rfl (Nat.le_of_ble_eq_true rfl) ?_
    refine zz_if_eq (tgt := 40) C ddA_ways_15 rfl (fun hc => ?_) (fun hc => ?_)
    · replace h := iteT h hc
      refine zz_loc (L1 := []) [] rfl ?_
      exact zBA_ways_40 hG C N hD hd E h
    · replace h := iteF h hc
      refine zz_aload_n C 0 ddA_ways_18 rfl rfl ?_
      refine zz_iload_n C 2 ddA_ways_19 rfl rfl ?_
      obtain ⟨h8, h⟩ := gdN h
      obtain ⟨q7, hq7, h⟩ := bindN h
      refine zz_callV0 (As := [.int v2]) C ddA_ways_20 wd_813 my_A_isScript mv_A_isScript ⟨_, rfl, rfl⟩ (xA_isScript hG (d - 1) (by omega) hq7) (by omega) h8 rfl rfl (Nat.le_of_ble_eq_true rfl) ?_
      refine zz_if_eq (tgt := 40) C ddA_ways_23 rfl (fun hc => ?_) (fun hc => ?_)
      · replace h := iteT h hc
        refine zz_loc (L1 := []) [] rfl ?_
        exact zBA_ways_40 hG C N hD hd E h
      · replace h := iteF h hc
        refine zz_iload_n C 1 ddA_ways_26 rfl rfl ?_
        refine zz_iload_n C 2 ddA_ways_27 rfl rfl ?_
        refine zz_icmp_eq (tgt := 40) C ddA_ways_28 rfl (fun hc => ?_) (fun hc => ?_)
        · replace h := iteT h hc
          refine zz_loc (L1 := []) [] rfl ?_
          exact zBA_ways_40 hG C N hD hd E h
        · replace h := iteF h hc
          refine zz_iload_n C 3 ddA_ways_31 rfl rfl ?_
          refine zz_if_lt (tgt := 40) C ddA_ways_32 rfl (fun hc => ?_) (fun hc => ?_)
          · replace h := iteT h hc
            refine zz_loc (L1 := []) [] rfl ?_
            exact zBA_ways_40 hG C N hD hd E h
          · replace h := iteF h hc
            refine zz_iload_n C 3 ddA_ways_35 rfl rfl ?_
            refine zz_iconst (v := 3) C ddA_ways_36 (by decide) ?_
            refine zz_icmp_le (tgt := 42) C ddA_ways_37 rfl (fun hc => ?_) (fun hc => ?_)
            · replace h := iteT h hc
              refine zz_aload_n C 0 ddA_ways_42 rfl rfl ?_
              obtain ⟨h9, h⟩ := gdN h
              obtain ⟨h10, h⟩ := gdN h
              refine zz_getr C ddA_ways_43 fl_A_37 rfl h9 (of_decide_eq_true h10) ?_
              refine zz_iload_n C 1 ddA_ways_46 rfl rfl ?_
              obtain ⟨h11, h⟩ := gdN h
              obtain ⟨h12, h⟩ := gdN h
              refine zz_aaload (t := 104) C ddA_ways_47 (by decide) (fun _ => rfl) h11 (of_decide_eq_true h12) ?_
              obtain ⟨h14, h⟩ := gdN h
              obtain ⟨q13, hq13, h⟩ := bindN h
              refine zz_callV0 (As := []) C ddA_ways_48 wd_986 my_S_isMixable mv_S_isMixable ⟨_, rfl, rfl⟩ (xS_isMixable hG (d - 1) (by omega) hq13) (by omega) h14 rfl rfl (Nat.le_of_ble_eq_true rfl) ?_
              refine zz_if_eq (tgt := 66) C ddA_ways_51 rfl (fun hc => ?_) (fun hc => ?_)
              · replace h := iteT h hc
                refine zz_loc (L1 := []) [] rfl ?_
                exact zBA_ways_66 hG C N hD hd E h
              · replace h := iteF h hc
                refine zz_aload_n C 0 ddA_ways_54 rfl rfl ?_
                obtain ⟨h15, h⟩ := gdN h
                obtain ⟨h16, h⟩ := gdN h
                refine zz_getr C ddA_ways_55 fl_A_37 rfl h15 (of_decide_eq_true h16) ?_
                refine zz_iload_n C 2 ddA_ways_58 rfl rfl ?_
                obtain ⟨h17, h⟩ := gdN h
                obtain ⟨h18, h⟩ := gdN h
                refine zz_aaload (t := 104) C ddA_ways_59 (by decide) (fun _ => rfl) h17 (of_decide_eq_true h18) ?_
                obtain ⟨h20, h⟩ := gdN h
                obtain ⟨q19, hq19, h⟩ := bindN h
                refine zz_callV0 (As := []) C ddA_ways_60 wd_986 my_S_isMixable mv_S_isMixable ⟨_, rfl, rfl⟩ (xS_isMixable hG (d - 1) (by omega) hq19) (by omega) h20 rfl rfl (Nat.le_of_ble_eq_true rfl) ?_
                refine zz_if_ne (tgt := 68) C ddA_ways_63 rfl (fun hc => ?_) (fun hc => ?_)
                · replace h := iteF h hc
                  refine zz_aload_n C 0 ddA_ways_68 rfl rfl ?_
                  obtain ⟨h21, h⟩ := gdN h
                  obtain ⟨h22, h⟩ := gdN h
                  refine zz_getr C ddA_ways_69 fl_A_80 rfl h21 (of_decide_eq_true h22) ?_
                  refine zz_aload_n C 0 ddA_ways_72 rfl rfl ?_
                  obtain ⟨h23, h⟩ := gdN h
                  refine zz_getr C ddA_ways_73 fl_A_55 rfl h21 (of_decide_eq_true h23) ?_
                  refine zz_aload_n C 0 ddA_ways_76 rfl rfl ?_
                  obtain ⟨h24, h⟩ := gdN h
                  refine zz_getr C ddA_ways_77 fl_A_37 rfl h21 (of_decide_eq_true h24) ?_
                  refine zz_iload_n C 1 ddA_ways_80 rfl rfl ?_
                  obtain ⟨h25, h⟩ := gdN h
                  obtain ⟨h26, h⟩ := gdN h
                  refine zz_aaload (t := 104) C ddA_ways_81 (by decide) (fun _ => rfl) h25 (of_decide_eq_true h26) ?_
                  refine zz_aload_n C 0 ddA_ways_82 rfl rfl ?_
                  refine zz_getr C ddA_ways_83 fl_A_37 rfl h21 (of_decide_eq_true h24) ?_
                  refine zz_iload_n C 2 ddA_ways_86 rfl rfl ?_
                  obtain ⟨h27, h⟩ := gdN h
                  obtain ⟨h28, h⟩ := gdN h
                  refine zz_aaload (t := 104) C ddA_ways_87 (by decide) (fun _ => rfl) h27 (of_decide_eq_true h28) ?_
                  obtain ⟨h30, h⟩ := gdN h
                  obtain ⟨q29, hq29, h⟩ := bindN h
                  refine zz_callV0 (As := [.ref (grM q19.2 v0 7), .ref (grM q19.2 (grM q19.2 v0 4) (Int32.toNatClampNeg v1)), .ref (grM q19.2 (grM q19.2 v0 4) (Int32.toNatClampNeg v2))]) C ddA_ways_88 wd_990 my_X_begin mv_X_begin ⟨_, rfl, rfl⟩ (xX_begin hG (d - 1) (by omega) hq29) (by omega) h30 rfl rfl (Nat.le_of_ble_eq_true rfl) ?_
                  refine zz_aload_n C 0 ddA_ways_91 rfl rfl ?_
                  obtain ⟨h31, h⟩ := gdN h
                  obtain ⟨h32, h⟩ := gdN h
                  refine zz_getr C ddA_ways_92 fl_A_80 rfl h31 (of_decide_eq_true h32) ?_
                  refine zz_iconst (v := 0) C ddA_ways_95 (by decide) ?_
                  refine zz_iconst (v := 0) C ddA_ways_96 (by decide) ?_
                  refine zz_iconst (v := 0) C ddA_ways_97 (by decide) ?_
                  obtain ⟨h34, h⟩ := gdN h
                  obtain ⟨q33, hq33, h⟩ := bindN h
                  refine zz_callVN0 (As := [.int 0, .int 0, .int 0]) C ddA_ways_98 wd_996 my_X_mix mv_X_mix ⟨_, rfl, rfl⟩ (xX_mix hG 20 (d - 1) (by omega) _ _ _ _ _ _ hq33) (by omega) h34 rfl rfl (Nat.le_of_ble_eq_true rfl) ?_
                  refine zz_iload_n C 3 ddA_ways_101 rfl rfl ?_
                  by_cases hs102_0 : v3 = 0
                  · replace h := iteT h hs102_0
                    rw [hs102_0]
                    refine zz_tableIn (tgt := 128) C ddA_ways_102 (by decide) (by decide) rfl rfl ?_
                    refine zz_aload_n C 0 ddA_ways_128 rfl rfl ?_
                    obtain ⟨h35, h⟩ := gdN h
                    obtain ⟨h36, h⟩ := gdN h
                    refine zz_getr C ddA_ways_129 fl_A_80 rfl h35 (of_decide_eq_true h36) ?_
                    obtain ⟨h37, h⟩ := gdN h
                    refine zz_geti C ddA_ways_132 fl_A_357 rfl h37 ?_
                    obtain rfl := Option.some.inj h
                    exact zz_iret C E ddA_ways_135
                  replace h := iteF h hs102_0
                  by_cases hs102_1 : v3 = 1
                  · replace h := iteT h hs102_1
                    rw [hs102_1]
                    refine zz_tableIn (tgt := 136) C ddA_ways_102 (by decide) (by decide) rfl rfl ?_
                    refine zz_aload_n C 0 ddA_ways_136 rfl rfl ?_
                    obtain ⟨h38, h⟩ := gdN h
                    obtain ⟨h39, h⟩ := gdN h
                    refine zz_getr C ddA_ways_137 fl_A_80 rfl h38 (of_decide_eq_true h39) ?_
                    obtain ⟨h40, h⟩ := gdN h
                    refine zz_geti C ddA_ways_140 fl_A_360 rfl h40 ?_
                    obtain rfl := Option.some.inj h
                    exact zz_iret C E ddA_ways_143
                  replace h := iteF h hs102_1
                  by_cases hs102_2 : v3 = 2
                  · replace h := iteT h hs102_2
                    rw [hs102_2]
                    refine zz_tableIn (tgt := 144) C ddA_ways_102 (by decide) (by decide) rfl rfl ?_
                    refine zz_aload_n C 0 ddA_ways_144 rfl rfl ?_
                    obtain ⟨h41, h⟩ := gdN h
                    obtain ⟨h42, h⟩ := gdN h
                    refine zz_getr C ddA_ways_145 fl_A_80 rfl h41 (of_decide_eq_true h42) ?_
                    obtain ⟨h43, h⟩ := gdN h
                    refine zz_geti C ddA_ways_148 fl_A_363 rfl h43 ?_
                    obtain rfl := Option.some.inj h
                    exact zz_iret C E ddA_ways_151
                  replace h := iteF h hs102_2
                  have ths102_0 := lv_neT (a := 0) hs102_0 (by decide)
                  have ths102_1 := lv_neT (a := 1) hs102_1 (by decide)
                  have ths102_2 := lv_neT (a := 2) hs102_2 (by decide)
                  refine zz_tableOut (tgt := 152) C ddA_ways_102 (by omega) rfl ?_
                  refine zz_aload_n C 0 ddA_ways_152 rfl rfl ?_
                  obtain ⟨h44, h⟩ := gdN h
                  obtain ⟨h45, h⟩ := gdN h
                  refine zz_getr C ddA_ways_153 fl_A_80 rfl h44 (of_decide_eq_true h45) ?_
                  obtain ⟨h46, h⟩ := gdN h
                  refine zz_geti C ddA_ways_156 fl_A_366 rfl h46 ?_
                  obtain rfl := Option.some.inj h
                  exact zz_iret C E ddA_ways_159
                · replace h := iteT h hc
                  refine zz_loc (L1 := []) [] rfl ?_
                  exact zBA_ways_66 hG C N hD hd E h
            · replace h := iteF h hc
              refine zz_loc (L1 := []) [] rfl ?_
              exact zBA_ways_40 hG C N hD hd E h
theorem ddA_shares_0 : decode cA_shares 0 = .ok (.aload_n 0, 1) := by decide +kernel
theorem ddA_shares_1 : decode cA_shares 1 = .ok (.getfield 55, 3) := by decide +kernel
theorem ddA_shares_4 : decode cA_shares 4 = .ok (.iload_n 1, 1) := by decide +kernel
theorem ddA_shares_5 : decode cA_shares 5 = .ok (.invokevirtual 187, 3) := by decide +kernel
theorem ddA_shares_8 : decode cA_shares 8 = .ok (.ifCond .eq 14, 3) := by decide +kernel
theorem ddA_shares_11 : decode cA_shares 11 = .ok (.iload_n 2, 1) := by decide +kernel
theorem ddA_shares_12 : decode cA_shares 12 = .ok (.ifCond .lt 10, 3) := by decide +kernel
theorem ddA_shares_15 : decode cA_shares 15 = .ok (.iload_n 2, 1) := by decide +kernel
theorem ddA_shares_16 : decode cA_shares 16 = .ok (.sipush 999, 3) := by decide +kernel
theorem ddA_shares_19 : decode cA_shares 19 = .ok (.if_icmp .le 5, 3) := by decide +kernel
theorem ddA_shares_22 : decode cA_shares 22 = .ok (.iconst (-1), 1) := by decide +kernel
theorem ddA_shares_23 : decode cA_shares 23 = .ok (.ireturn, 1) := by decide +kernel
theorem ddA_shares_24 : decode cA_shares 24 = .ok (.iconst 0, 1) := by decide +kernel
theorem ddA_shares_25 : decode cA_shares 25 = .ok (.istore_n 3, 1) := by decide +kernel
theorem ddA_shares_26 : decode cA_shares 26 = .ok (.iconst 0, 1) := by decide +kernel
theorem ddA_shares_27 : decode cA_shares 27 = .ok (.istore 4, 2) := by decide +kernel
theorem ddA_shares_29 : decode cA_shares 29 = .ok (.iconst 0, 1) := by decide +kernel
theorem ddA_shares_30 : decode cA_shares 30 = .ok (.istore 5, 2) := by decide +kernel
theorem ddA_shares_32 : decode cA_shares 32 = .ok (.iload 5, 2) := by decide +kernel
theorem ddA_shares_34 : decode cA_shares 34 = .ok (.aload_n 0, 1) := by decide +kernel
theorem ddA_shares_35 : decode cA_shares 35 = .ok (.getfield 28, 3) := by decide +kernel
theorem ddA_shares_38 : decode cA_shares 38 = .ok (.getfield 136, 3) := by decide +kernel
theorem ddA_shares_41 : decode cA_shares 41 = .ok (.iconst 1, 1) := by decide +kernel
theorem ddA_shares_42 : decode cA_shares 42 = .ok (.iaload, 1) := by decide +kernel
theorem ddA_shares_43 : decode cA_shares 43 = .ok (.if_icmp .ge 53, 3) := by decide +kernel
theorem ddA_shares_46 : decode cA_shares 46 = .ok (.iload 4, 2) := by decide +kernel
theorem ddA_shares_48 : decode cA_shares 48 = .ok (.aload_n 0, 1) := by decide +kernel
theorem ddA_shares_49 : decode cA_shares 49 = .ok (.getfield 55, 3) := by decide +kernel
theorem ddA_shares_52 : decode cA_shares 52 = .ok (.iload 5, 2) := by decide +kernel
theorem ddA_shares_54 : decode cA_shares 54 = .ok (.invokevirtual 165, 3) := by decide +kernel
theorem ddA_shares_57 : decode cA_shares 57 = .ok (.iadd, 1) := by decide +kernel
theorem ddA_shares_58 : decode cA_shares 58 = .ok (.istore 4, 2) := by decide +kernel
theorem ddA_shares_60 : decode cA_shares 60 = .ok (.iload_n 3, 1) := by decide +kernel
theorem ddA_shares_61 : decode cA_shares 61 = .ok (.aload_n 0, 1) := by decide +kernel
theorem ddA_shares_62 : decode cA_shares 62 = .ok (.getfield 55, 3) := by decide +kernel
theorem ddA_shares_65 : decode cA_shares 65 = .ok (.getfield 159, 3) := by decide +kernel
theorem ddA_shares_68 : decode cA_shares 68 = .ok (.iload 5, 2) := by decide +kernel
theorem ddA_shares_70 : decode cA_shares 70 = .ok (.iaload, 1) := by decide +kernel
theorem ddA_shares_71 : decode cA_shares 71 = .ok (.iload_n 1, 1) := by decide +kernel
theorem ddA_shares_72 : decode cA_shares 72 = .ok (.if_icmp .ne 15, 3) := by decide +kernel
theorem ddA_shares_75 : decode cA_shares 75 = .ok (.aload_n 0, 1) := by decide +kernel
theorem ddA_shares_76 : decode cA_shares 76 = .ok (.getfield 55, 3) := by decide +kernel
theorem ddA_shares_79 : decode cA_shares 79 = .ok (.iload 5, 2) := by decide +kernel
theorem ddA_shares_81 : decode cA_shares 81 = .ok (.invokevirtual 165, 3) := by decide +kernel
theorem ddA_shares_84 : decode cA_shares 84 = .ok (.goto 4, 3) := by decide +kernel
theorem ddA_shares_87 : decode cA_shares 87 = .ok (.iconst 0, 1) := by decide +kernel
theorem ddA_shares_88 : decode cA_shares 88 = .ok (.iadd, 1) := by decide +kernel
theorem ddA_shares_89 : decode cA_shares 89 = .ok (.istore_n 3, 1) := by decide +kernel
theorem ddA_shares_90 : decode cA_shares 90 = .ok (.iinc 5 1, 3) := by decide +kernel
theorem ddA_shares_93 : decode cA_shares 93 = .ok (.goto (-61), 3) := by decide +kernel
theorem ddA_shares_96 : decode cA_shares 96 = .ok (.iload 4, 2) := by decide +kernel
theorem ddA_shares_98 : decode cA_shares 98 = .ok (.ifCond .le 12, 3) := by decide +kernel
theorem ddA_shares_101 : decode cA_shares 101 = .ok (.iload_n 2, 1) := by decide +kernel
theorem ddA_shares_102 : decode cA_shares 102 = .ok (.iload_n 3, 1) := by decide +kernel
theorem ddA_shares_103 : decode cA_shares 103 = .ok (.imul, 1) := by decide +kernel
theorem ddA_shares_104 : decode cA_shares 104 = .ok (.iload 4, 2) := by decide +kernel
theorem ddA_shares_106 : decode cA_shares 106 = .ok (.idiv, 1) := by decide +kernel
theorem ddA_shares_107 : decode cA_shares 107 = .ok (.goto 4, 3) := by decide +kernel
theorem ddA_shares_110 : decode cA_shares 110 = .ok (.iconst 0, 1) := by decide +kernel
theorem ddA_shares_111 : decode cA_shares 111 = .ok (.ireturn, 1) := by decide +kernel
set_option maxHeartbeats 2000000 in
theorem zBA_shares_111 {G : GXM} {X : CxM} (hG : GokM G) (C : CoM G X cA_shares "HomeFreed") (N : mLM X = 6) {d : Nat} (hD : dpM X = d) (hd : 1 ≤ d)  {q : Int32 × Mem} (E : EnM G X (some .int) (some (.int q.1)) q.2 0 0) {w0 : Int32} {M : Mem} (h : BA_shares_111 w0 M = some q) : ZM G X 111 [] [.int w0] M 0 0 := by
  unfold BA_shares_111 at h
  obtain rfl := Option.some.inj h
  exact zz_iret C E ddA_shares_111
set_option maxHeartbeats 2000000 in
theorem zBA_shares_88 {G : GXM} {X : CxM} (hG : GokM G) (C : CoM G X cA_shares "HomeFreed") (N : mLM X = 6) {d : Nat} (hD : dpM X = d) (hd : 1 ≤ d) {v0 : Nat} {v1 : Int32} {v2 : Int32} {K : Nat → Int32 → Int32 → Int32 → Int32 → Int32 → Mem → Option ((Int32 × Int32 × Mem))} {q : (Int32 × Int32 × Mem)} (hK : ∀ (v3 : Int32) (v4 : Int32) (v5 : Int32) (M : Mem), K v0 v1 v2 v3 v4 v5 M = some q → ZM G X 32 [(0, .ref v0), (1, .int v1), (2, .int v2), (3, .int v3), (4, .int v4), (5, .int v5)] [] M 0 0) (hx0 : ∀ y : Int32 × Int32 × Mem, q = y → ZM G X 96 [(2, .int v2), (3, .int y.1), (4, .int y.2.1)] [] y.2.2 0 0) {v4 : Int32} {v5 : Int32} {w0 : Int32} {w1 : Int32} {M : Mem} (h : BA_shares_88 K v0 v1 v2 v4 v5 w0 w1 M = some q) : ZM G X 88 [(0, .ref v0), (1, .int v1), (2, .int v2), (4, .int v4), (5, .int v5)] [.int w1, .int w0] M 0 0 := by
  unfold BA_shares_88 at h
  refine zz_iadd C ddA_shares_88 ?_
  refine zz_istore_n (L1 := [(3, .int (w0 + w1)), (0, .ref v0), (1, .int v1), (2, .int v2), (4, .int v4), (5, .int v5)]) C ddA_shares_89 rfl N (by decide) rfl ?_
  refine zz_iinc (v := v5 + 1) (L1 := [(5, .int (v5 + 1)), (3, .int (w0 + w1)), (0, .ref v0), (1, .int v1), (2, .int v2), (4, .int v4)]) C 5 ddA_shares_90 rfl rfl N (by decide) rfl ?_
  refine zz_goto (tgt := 32) C ddA_shares_93 rfl ?_
  refine zz_loc (L1 := [(0, .ref v0), (1, .int v1), (2, .int v2), (3, .int (w0 + w1)), (4, .int v4), (5, .int (v5 + 1))]) [2, 3, 4, 1, 5, 0] rfl ?_
  exact hK _ _ _ _ h
set_option maxHeartbeats 2000000 in
theorem zBA_shares_32 {G : GXM} {X : CxM} (hG : GokM G) (C : CoM G X cA_shares "HomeFreed") (N : mLM X = 6) {d : Nat} (hD : dpM X = d) (hd : 1 ≤ d) {v0 : Nat} {v1 : Int32} {v2 : Int32} {K : Nat → Int32 → Int32 → Int32 → Int32 → Int32 → Mem → Option ((Int32 × Int32 × Mem))} {q : (Int32 × Int32 × Mem)} (hK : ∀ (v3 : Int32) (v4 : Int32) (v5 : Int32) (M : Mem), K v0 v1 v2 v3 v4 v5 M = some q → ZM G X 32 [(0, .ref v0), (1, .int v1), (2, .int v2), (3, .int v3), (4, .int v4), (5, .int v5)] [] M 0 0) (hx0 : ∀ y : Int32 × Int32 × Mem, q = y → ZM G X 96 [(2, .int v2), (3, .int y.1), (4, .int y.2.1)] [] y.2.2 0 0) {v3 : Int32} {v4 : Int32} {v5 : Int32} {M : Mem} (h : BA_shares_32 K v0 v1 v2 v3 v4 v5 M = some q) : ZM G X 32 [(0, .ref v0), (1, .int v1), (2, .int v2), (3, .int v3), (4, .int v4), (5, .int v5)] [] M 0 0 := by
  unfold BA_shares_32 at h
  refine zz_iload C 5 ddA_shares_32 rfl ?_
  refine zz_aload_n C 0 ddA_shares_34 rfl rfl ?_
  obtain ⟨h1, h⟩ := gdN h
  obtain ⟨h2, h⟩ := gdN h
  refine zz_getr C ddA_shares_35 fl_A_28 rfl h1 (of_decide_eq_true h2) ?_
  obtain ⟨h3, h⟩ := gdN h
  obtain ⟨h4, h⟩ := gdN h
  refine zz_getr C ddA_shares_38 fl_A_136 rfl h3 (of_decide_eq_true h4) ?_
  refine zz_iconst (v := 1) C ddA_shares_41 (by decide) ?_
  obtain ⟨h5, h⟩ := gdN h
  refine zz_iaload C ddA_shares_42 h5 ?_
  refine zz_icmp_ge (tgt := 96) C ddA_shares_43 rfl (fun hc => ?_) (fun hc => ?_)
  · replace h := iteT h hc
    refine zz_loc (L1 := [(2, .int v2), (3, .int v3), (4, .int v4)]) [2, 3, 4] rfl ?_
    exact hx0 _ (Option.some.inj h).symm
  · replace h := iteF h hc
    refine zz_iload C 4 ddA_shares_46 rfl ?_
    refine zz_aload_n C 0 ddA_shares_48 rfl rfl ?_
    obtain ⟨h6, h⟩ := gdN h
    refine zz_getr C ddA_shares_49 fl_A_55 rfl h1 (of_decide_eq_true h6) ?_
    refine zz_iload C 5 ddA_shares_52 rfl ?_
    obtain ⟨h8, h⟩ := gdN h
    obtain ⟨q7, hq7, h⟩ := bindN h
    refine zz_callV0 (As := [.int v5]) C ddA_shares_54 wd_972 my_H_usedOf mv_H_usedOf ⟨_, rfl, rfl⟩ (xH_usedOf hG (d - 1) (by omega) hq7) (by omega) h8 rfl rfl (Nat.le_of_ble_eq_true rfl) ?_
    refine zz_iadd C ddA_shares_57 ?_
    refine zz_istore (L1 := [(4, .int (v4 + q7.1)), (0, .ref v0), (1, .int v1), (2, .int v2), (3, .int v3), (5, .int v5)]) C ddA_shares_58 N (by decide) rfl ?_
    refine zz_iload_n C 4 ddA_shares_60 rfl rfl ?_
    refine zz_aload_n C 1 ddA_shares_61 rfl rfl ?_
    obtain ⟨h9, h⟩ := gdN h
    obtain ⟨h10, h⟩ := gdN h
    refine zz_getr C ddA_shares_62 fl_A_55 rfl h9 (of_decide_eq_true h10) ?_
    obtain ⟨h11, h⟩ := gdN h
    obtain ⟨h12, h⟩ := gdN h
    refine zz_getr C ddA_shares_65 fl_A_159 rfl h11 (of_decide_eq_true h12) ?_
    refine zz_iload C 5 ddA_shares_68 rfl ?_
    obtain ⟨h13, h⟩ := gdN h
    refine zz_iaload C ddA_shares_70 h13 ?_
    refine zz_iload_n C 2 ddA_shares_71 rfl rfl ?_
    refine zz_icmp_ne (tgt := 87) C ddA_shares_72 rfl (fun hc => ?_) (fun hc => ?_)
    · replace h := iteF h hc
      refine zz_iconst (v := 0) C ddA_shares_87 (by decide) ?_
      refine zz_loc (L1 := [(0, .ref v0), (1, .int v1), (2, .int v2), (4, .int (v4 + q7.1)), (5, .int v5)]) [1, 2, 3, 0, 5] rfl ?_
      exact zBA_shares_88 hG C N hD hd hK hx0 h
    · replace h := iteT h hc
      refine zz_aload_n C 1 ddA_shares_75 rfl rfl ?_
      refine zz_getr C ddA_shares_76 fl_A_55 rfl h9 (of_decide_eq_true h10) ?_
      refine zz_iload C 5 ddA_shares_79 rfl ?_
      obtain ⟨q14, hq14, h⟩ := bindN h
      refine zz_callV0 (As := [.int v5]) C ddA_shares_81 wd_972 my_H_usedOf mv_H_usedOf ⟨_, rfl, rfl⟩ (xH_usedOf hG (d - 1) (by omega) hq14) (by omega) h11 rfl rfl (Nat.le_of_ble_eq_true rfl) ?_
      refine zz_goto (tgt := 88) C ddA_shares_84 rfl ?_
      refine zz_loc (L1 := [(0, .ref v0), (1, .int v1), (2, .int v2), (4, .int (v4 + q7.1)), (5, .int v5)]) [1, 2, 3, 0, 5] rfl ?_
      exact zBA_shares_88 hG C N hD hd hK hx0 h
set_option maxHeartbeats 2000000 in
theorem zLA_shares_32 {G : GXM} {X : CxM} (hG : GokM G) (C : CoM G X cA_shares "HomeFreed") (N : mLM X = 6) {d : Nat} (hD : dpM X = d) (hd : 1 ≤ d) {v0 : Nat} {v1 : Int32} {v2 : Int32} {q : (Int32 × Int32 × Mem)} : ∀ (f : Nat) (v3 : Int32) (v4 : Int32) (v5 : Int32) (M : Mem), LA_shares_32 f v0 v1 v2 v3 v4 v5 M = some q → (hx0 : ∀ y : Int32 × Int32 × Mem, q = y → ZM G X 96 [(2, .int v2), (3, .int y.1), (4, .int y.2.1)] [] y.2.2 0 0) → ZM G X 32 [(0, .ref v0), (1, .int v1), (2, .int v2), (3, .int v3), (4, .int v4), (5, .int v5)] [] M 0 0 := by
  intro f
  induction f with
  | zero => intro v3 v4 v5 M h; cases h
  | succ f ih =>
    intro v3 v4 v5 M h hx0
    exact zBA_shares_32 hG C N hD hd (K := LA_shares_32 f) (q := q) (fun v3 v4 v5 M h => ih v3 v4 v5 M h hx0) hx0 h
set_option maxHeartbeats 2000000 in
theorem zBA_shares_22 {G : GXM} {X : CxM} (hG : GokM G) (C : CoM G X cA_shares "HomeFreed") (N : mLM X = 6) {d : Nat} (hD : dpM X = d) (hd : 1 ≤ d)  {q : Int32 × Mem} (E : EnM G X (some .int) (some (.int q.1)) q.2 0 0) {M : Mem} (h : BA_shares_22 M = some q) : ZM G X 22 [] [] M 0 0 := by
  unfold BA_shares_22 at h
  refine zz_iconst (v := (-1)) C ddA_shares_22 (by decide) ?_
  obtain rfl := Option.some.inj h
  exact zz_iret C E ddA_shares_23
set_option maxHeartbeats 2000000 in
theorem xA_shares {G : GXM} {l : Launch} (hG : GokM G) (d : Nat) (hd : 1 ≤ d) {v0 : Nat} {v1 : Int32} {v2 : Int32} {M : Mem} {q : Int32 × Mem} (h : fA_shares v0 v1 v2 M = some q) : ExM G l d 0 0 yA_shares cA_shares 6 (some .int) [.ref v0, .int v1, .int v2] M (some (.int q.1)) q.2 := by
  refine ex_of hG (by decide) (Nat.le_of_ble_eq_true rfl) ?_
  intro X hl C E N hD hn
  show ZM G X 0 [(0, .ref v0), (1, .int v1), (2, .int v2)] [] M 0 0
  unfold fA_shares at h
  refine zz_aload_n C 0 ddA_shares_0 rfl rfl ?_
  obtain ⟨h1, h⟩ := gdN h
  obtain ⟨h2, h⟩ := gdN h
  refine zz_getr C ddA_shares_1 fl_A_55 rfl h1 (of_decide_eq_true h2) ?_
  refine zz_iload_n C 1 ddA_shares_4 rfl rfl ?_
  obtain ⟨h4, h⟩ := gdN h
  obtain ⟨q3, hq3, h⟩ := bindN h
  refine zz_callV0 (As := [.int v1]) C ddA_shares_5 wd_602 my_H_isThread mv_H_isThread ⟨_, rfl, rfl⟩ (xH_isThread hG (d - 1) (by omega) hq3) (by omega) h4 rfl rfl (Nat.le_of_ble_eq_true rfl) ?_
  refine zz_if_eq (tgt := 22) C ddA_shares_8 rfl (fun hc => ?_) (fun hc => ?_)
  · replace h := iteT h hc
    refine zz_loc (L1 := []) [] rfl ?_
    exact zBA_shares_22 hG C N hD hd E h
  · replace h := iteF h hc
    refine zz_iload_n C 2 ddA_shares_11 rfl rfl ?_
    refine zz_if_lt (tgt := 22) C ddA_shares_12 rfl (fun hc => ?_) (fun hc => ?_)
    · replace h := iteT h hc
      refine zz_loc (L1 := []) [] rfl ?_
      exact zBA_shares_22 hG C N hD hd E h
    · replace h := iteF h hc
      refine zz_iload_n C 2 ddA_shares_15 rfl rfl ?_
      refine zz_sipush (v := 999) C ddA_shares_16 (by decide) ?_
      refine zz_icmp_le (tgt := 24) C ddA_shares_19 rfl (fun hc => ?_) (fun hc => ?_)
      · replace h := iteT h hc
        refine zz_iconst (v := 0) C ddA_shares_24 (by decide) ?_
        refine zz_istore_n (L1 := [(3, .int 0), (0, .ref v0), (1, .int v1), (2, .int v2)]) C ddA_shares_25 rfl N (by decide) rfl ?_
        refine zz_iconst (v := 0) C ddA_shares_26 (by decide) ?_
        refine zz_istore (L1 := [(4, .int 0), (3, .int 0), (0, .ref v0), (1, .int v1), (2, .int v2)]) C ddA_shares_27 N (by decide) rfl ?_
        refine zz_iconst (v := 0) C ddA_shares_29 (by decide) ?_
        refine zz_istore (L1 := [(5, .int 0), (4, .int 0), (3, .int 0), (0, .ref v0), (1, .int v1), (2, .int v2)]) C ddA_shares_30 N (by decide) rfl ?_
        refine zz_loc (L1 := [(0, .ref v0), (1, .int v1), (2, .int v2), (3, .int 0), (4, .int 0), (5, .int 0)]) [3, 4, 5, 2, 1, 0] rfl ?_
        obtain ⟨q5, hq5, h⟩ := bindN h
        refine zLA_shares_32 hG C N hD hd 1000000 _ _ _ _ hq5 ?_
        · intro y6 eq5; subst eq5
          refine zz_iload C 2 ddA_shares_96 rfl ?_
          refine zz_if_le (tgt := 110) C ddA_shares_98 rfl (fun hc => ?_) (fun hc => ?_)
          · replace h := iteT h hc
            refine zz_iconst (v := 0) C ddA_shares_110 (by decide) ?_
            refine zz_loc (L1 := []) [] rfl ?_
            exact zBA_shares_111 hG C N hD hd E h
          · replace h := iteF h hc
            refine zz_iload_n C 0 ddA_shares_101 rfl rfl ?_
            refine zz_iload_n C 1 ddA_shares_102 rfl rfl ?_
            refine zz_imul C ddA_shares_103 ?_
            refine zz_iload C 2 ddA_shares_104 rfl ?_
            obtain ⟨h7, h⟩ := gdN h
            refine zz_idiv C ddA_shares_106 (of_decide_eq_true h7) ?_
            refine zz_goto (tgt := 111) C ddA_shares_107 rfl ?_
            refine zz_loc (L1 := []) [] rfl ?_
            exact zBA_shares_111 hG C N hD hd E h
      · replace h := iteF h hc
        refine zz_loc (L1 := []) [] rfl ?_
        exact zBA_shares_22 hG C N hD hd E h
theorem ddA_fullest_0 : decode cA_fullest 0 = .ok (.iconst 0, 1) := by decide +kernel
theorem ddA_fullest_1 : decode cA_fullest 1 = .ok (.istore_n 1, 1) := by decide +kernel
theorem ddA_fullest_2 : decode cA_fullest 2 = .ok (.iconst 1, 1) := by decide +kernel
theorem ddA_fullest_3 : decode cA_fullest 3 = .ok (.istore_n 2, 1) := by decide +kernel
theorem ddA_fullest_4 : decode cA_fullest 4 = .ok (.iload_n 2, 1) := by decide +kernel
theorem ddA_fullest_5 : decode cA_fullest 5 = .ok (.aload_n 0, 1) := by decide +kernel
theorem ddA_fullest_6 : decode cA_fullest 6 = .ok (.getfield 28, 3) := by decide +kernel
theorem ddA_fullest_9 : decode cA_fullest 9 = .ok (.getfield 136, 3) := by decide +kernel
theorem ddA_fullest_12 : decode cA_fullest 12 = .ok (.iconst 1, 1) := by decide +kernel
theorem ddA_fullest_13 : decode cA_fullest 13 = .ok (.iaload, 1) := by decide +kernel
theorem ddA_fullest_14 : decode cA_fullest 14 = .ok (.if_icmp .ge 34, 3) := by decide +kernel
theorem ddA_fullest_17 : decode cA_fullest 17 = .ok (.aload_n 0, 1) := by decide +kernel
theorem ddA_fullest_18 : decode cA_fullest 18 = .ok (.getfield 55, 3) := by decide +kernel
theorem ddA_fullest_21 : decode cA_fullest 21 = .ok (.iload_n 2, 1) := by decide +kernel
theorem ddA_fullest_22 : decode cA_fullest 22 = .ok (.invokevirtual 165, 3) := by decide +kernel
theorem ddA_fullest_25 : decode cA_fullest 25 = .ok (.aload_n 0, 1) := by decide +kernel
theorem ddA_fullest_26 : decode cA_fullest 26 = .ok (.getfield 55, 3) := by decide +kernel
theorem ddA_fullest_29 : decode cA_fullest 29 = .ok (.iload_n 1, 1) := by decide +kernel
theorem ddA_fullest_30 : decode cA_fullest 30 = .ok (.invokevirtual 165, 3) := by decide +kernel
theorem ddA_fullest_33 : decode cA_fullest 33 = .ok (.if_icmp .le 7, 3) := by decide +kernel
theorem ddA_fullest_36 : decode cA_fullest 36 = .ok (.iload_n 2, 1) := by decide +kernel
theorem ddA_fullest_37 : decode cA_fullest 37 = .ok (.goto 4, 3) := by decide +kernel
theorem ddA_fullest_40 : decode cA_fullest 40 = .ok (.iload_n 1, 1) := by decide +kernel
theorem ddA_fullest_41 : decode cA_fullest 41 = .ok (.istore_n 1, 1) := by decide +kernel
theorem ddA_fullest_42 : decode cA_fullest 42 = .ok (.iinc 2 1, 3) := by decide +kernel
theorem ddA_fullest_45 : decode cA_fullest 45 = .ok (.goto (-41), 3) := by decide +kernel
theorem ddA_fullest_48 : decode cA_fullest 48 = .ok (.iload_n 1, 1) := by decide +kernel
theorem ddA_fullest_49 : decode cA_fullest 49 = .ok (.ireturn, 1) := by decide +kernel
set_option maxHeartbeats 2000000 in
theorem zBA_fullest_41 {G : GXM} {X : CxM} (hG : GokM G) (C : CoM G X cA_fullest "HomeFreed") (N : mLM X = 3) {d : Nat} (hD : dpM X = d) (hd : 1 ≤ d) {v0 : Nat} {K : Nat → Int32 → Int32 → Mem → Option ((Int32 × Mem))} {q : (Int32 × Mem)} (hK : ∀ (v1 : Int32) (v2 : Int32) (M : Mem), K v0 v1 v2 M = some q → ZM G X 4 [(0, .ref v0), (1, .int v1), (2, .int v2)] [] M 0 0) (hr : ∀ r : Int32 × Mem, q =  r → EnM G X (some .int) (some (.int r.1)) r.2 0 0) {v2 : Int32} {w0 : Int32} {M : Mem} (h : BA_fullest_41 K v0 v2 w0 M = some q) : ZM G X 41 [(0, .ref v0), (2, .int v2)] [.int w0] M 0 0 := by
  unfold BA_fullest_41 at h
  refine zz_istore_n (L1 := [(1, .int w0), (0, .ref v0), (2, .int v2)]) C ddA_fullest_41 rfl N (by decide) rfl ?_
  refine zz_iinc (v := v2 + 1) (L1 := [(2, .int (v2 + 1)), (1, .int w0), (0, .ref v0)]) C 2 ddA_fullest_42 rfl rfl N (by decide) rfl ?_
  refine zz_goto (tgt := 4) C ddA_fullest_45 rfl ?_
  refine zz_loc (L1 := [(0, .ref v0), (1, .int w0), (2, .int (v2 + 1))]) [2, 1, 0] rfl ?_
  exact hK _ _ _ h
set_option maxHeartbeats 2000000 in
theorem zBA_fullest_4 {G : GXM} {X : CxM} (hG : GokM G) (C : CoM G X cA_fullest "HomeFreed") (N : mLM X = 3) {d : Nat} (hD : dpM X = d) (hd : 1 ≤ d) {v0 : Nat} {K : Nat → Int32 → Int32 → Mem → Option ((Int32 × Mem))} {q : (Int32 × Mem)} (hK : ∀ (v1 : Int32) (v2 : Int32) (M : Mem), K v0 v1 v2 M = some q → ZM G X 4 [(0, .ref v0), (1, .int v1), (2, .int v2)] [] M 0 0) (hr : ∀ r : Int32 × Mem, q =  r → EnM G X (some .int) (some (.int r.1)) r.2 0 0) {v1 : Int32} {v2 : Int32} {M : Mem} (h : BA_fullest_4 K v0 v1 v2 M = some q) : ZM G X 4 [(0, .ref v0), (1, .int v1), (2, .int v2)] [] M 0 0 := by
  unfold BA_fullest_4 at h
  refine zz_iload_n C 2 ddA_fullest_4 rfl rfl ?_
  refine zz_aload_n C 0 ddA_fullest_5 rfl rfl ?_
  obtain ⟨h1, h⟩ := gdN h
  obtain ⟨h2, h⟩ := gdN h
  refine zz_getr C ddA_fullest_6 fl_A_28 rfl h1 (of_decide_eq_true h2) ?_
  obtain ⟨h3, h⟩ := gdN h
  obtain ⟨h4, h⟩ := gdN h
  refine zz_getr C ddA_fullest_9 fl_A_136 rfl h3 (of_decide_eq_true h4) ?_
  refine zz_iconst (v := 1) C ddA_fullest_12 (by decide) ?_
  obtain ⟨h5, h⟩ := gdN h
  refine zz_iaload C ddA_fullest_13 h5 ?_
  refine zz_icmp_ge (tgt := 48) C ddA_fullest_14 rfl (fun hc => ?_) (fun hc => ?_)
  · replace h := iteT h hc
    refine zz_iload_n C 1 ddA_fullest_48 rfl rfl ?_
    exact zz_iret C (hr _ (Option.some.inj h).symm) ddA_fullest_49
  · replace h := iteF h hc
    refine zz_aload_n C 0 ddA_fullest_17 rfl rfl ?_
    obtain ⟨h6, h⟩ := gdN h
    refine zz_getr C ddA_fullest_18 fl_A_55 rfl h1 (of_decide_eq_true h6) ?_
    refine zz_iload_n C 2 ddA_fullest_21 rfl rfl ?_
    obtain ⟨h8, h⟩ := gdN h
    obtain ⟨q7, hq7, h⟩ := bindN h
    refine zz_callV0 (As := [.int v2]) C ddA_fullest_22 wd_972 my_H_usedOf mv_H_usedOf ⟨_, rfl, rfl⟩ (xH_usedOf hG (d - 1) (by omega) hq7) (by omega) h8 rfl rfl (Nat.le_of_ble_eq_true rfl) ?_
    refine zz_aload_n C 0 ddA_fullest_25 rfl rfl ?_
    obtain ⟨h9, h⟩ := gdN h
    obtain ⟨h10, h⟩ := gdN h
    refine zz_getr C ddA_fullest_26 fl_A_55 rfl h9 (of_decide_eq_true h10) ?_
    refine zz_iload_n C 1 ddA_fullest_29 rfl rfl ?_
    obtain ⟨h12, h⟩ := gdN h
    obtain ⟨q11, hq11, h⟩ := bindN h
    refine zz_callV0 (As := [.int v1]) C ddA_fullest_30 wd_972 my_H_usedOf mv_H_usedOf ⟨_, rfl, rfl⟩ (xH_usedOf hG (d - 1) (by omega) hq11) (by omega) h12 rfl rfl (Nat.le_of_ble_eq_true rfl) ?_
    refine zz_icmp_le (tgt := 40) C ddA_fullest_33 rfl (fun hc => ?_) (fun hc => ?_)
    · replace h := iteT h hc
      refine zz_iload_n C 1 ddA_fullest_40 rfl rfl ?_
      refine zz_loc (L1 := [(0, .ref v0), (2, .int v2)]) [0, 2] rfl ?_
      exact zBA_fullest_41 hG C N hD hd hK hr h
    · replace h := iteF h hc
      refine zz_iload_n C 2 ddA_fullest_36 rfl rfl ?_
      refine zz_goto (tgt := 41) C ddA_fullest_37 rfl ?_
      refine zz_loc (L1 := [(0, .ref v0), (2, .int v2)]) [0, 2] rfl ?_
      exact zBA_fullest_41 hG C N hD hd hK hr h
set_option maxHeartbeats 2000000 in
theorem zLA_fullest_4 {G : GXM} {X : CxM} (hG : GokM G) (C : CoM G X cA_fullest "HomeFreed") (N : mLM X = 3) {d : Nat} (hD : dpM X = d) (hd : 1 ≤ d) {v0 : Nat} {q : (Int32 × Mem)} : ∀ (f : Nat) (v1 : Int32) (v2 : Int32) (M : Mem), LA_fullest_4 f v0 v1 v2 M = some q → (hr : ∀ r : Int32 × Mem, q =  r → EnM G X (some .int) (some (.int r.1)) r.2 0 0) → ZM G X 4 [(0, .ref v0), (1, .int v1), (2, .int v2)] [] M 0 0 := by
  intro f
  induction f with
  | zero => intro v1 v2 M h; cases h
  | succ f ih =>
    intro v1 v2 M h hr
    exact zBA_fullest_4 hG C N hD hd (K := LA_fullest_4 f) (q := q) (fun v1 v2 M h => ih v1 v2 M h hr) hr h
set_option maxHeartbeats 2000000 in
theorem xA_fullest {G : GXM} {l : Launch} (hG : GokM G) (d : Nat) (hd : 1 ≤ d) {v0 : Nat} {M : Mem} {q : Int32 × Mem} (h : fA_fullest v0 M = some q) : ExM G l d 0 0 yA_fullest cA_fullest 3 (some .int) [.ref v0] M (some (.int q.1)) q.2 := by
  refine ex_of hG (by decide) (Nat.le_of_ble_eq_true rfl) ?_
  intro X hl C E N hD hn
  show ZM G X 0 [(2, .int v2), (1, .int v1), (0, .ref v0)] [] M 0 0
  unfold fA_fullest at h
  refine zz_iconst (v := 0) C ddA_fullest_0 (by decide) ?_
  refine zz_istore_n (L1 := [(1, .int 0), (0, .ref v0)]) C ddA_fullest_1 rfl N (by decide) rfl ?_
  refine zz_iconst (v := 1) C ddA_fullest_2 (by decide) ?_
  refine zz_istore_n (L1 := [(2, .int 1), (1, .int 0), (0, .ref v0)]) C ddA_fullest_3 rfl N (by decide) rfl ?_
  refine zz_loc (L1 := [(0, .ref v0), (1, .int 0), (2, .int 1)]) [2, 1, 0] rfl ?_
  obtain ⟨q1, hq1, h⟩ := bindN h
  refine zLA_fullest_4 hG C N hD hd 1000000 _ _ _ hq1 ?_
  · intro r2 eq1; subst eq1
    obtain rfl := Option.some.inj h
    exact E
theorem ddA_richest_0 : decode cA_richest 0 = .ok (.iconst 0, 1) := by decide +kernel
theorem ddA_richest_1 : decode cA_richest 1 = .ok (.istore_n 1, 1) := by decide +kernel
theorem ddA_richest_2 : decode cA_richest 2 = .ok (.iconst 1, 1) := by decide +kernel
theorem ddA_richest_3 : decode cA_richest 3 = .ok (.istore_n 2, 1) := by decide +kernel
theorem ddA_richest_4 : decode cA_richest 4 = .ok (.iload_n 2, 1) := by decide +kernel
theorem ddA_richest_5 : decode cA_richest 5 = .ok (.aload_n 0, 1) := by decide +kernel
theorem ddA_richest_6 : decode cA_richest 6 = .ok (.getfield 28, 3) := by decide +kernel
theorem ddA_richest_9 : decode cA_richest 9 = .ok (.getfield 136, 3) := by decide +kernel
theorem ddA_richest_12 : decode cA_richest 12 = .ok (.iconst 0, 1) := by decide +kernel
theorem ddA_richest_13 : decode cA_richest 13 = .ok (.iaload, 1) := by decide +kernel
theorem ddA_richest_14 : decode cA_richest 14 = .ok (.if_icmp .ge 34, 3) := by decide +kernel
theorem ddA_richest_17 : decode cA_richest 17 = .ok (.aload_n 0, 1) := by decide +kernel
theorem ddA_richest_18 : decode cA_richest 18 = .ok (.getfield 55, 3) := by decide +kernel
theorem ddA_richest_21 : decode cA_richest 21 = .ok (.iload_n 2, 1) := by decide +kernel
theorem ddA_richest_22 : decode cA_richest 22 = .ok (.invokevirtual 193, 3) := by decide +kernel
theorem ddA_richest_25 : decode cA_richest 25 = .ok (.aload_n 0, 1) := by decide +kernel
theorem ddA_richest_26 : decode cA_richest 26 = .ok (.getfield 55, 3) := by decide +kernel
theorem ddA_richest_29 : decode cA_richest 29 = .ok (.iload_n 1, 1) := by decide +kernel
theorem ddA_richest_30 : decode cA_richest 30 = .ok (.invokevirtual 193, 3) := by decide +kernel
theorem ddA_richest_33 : decode cA_richest 33 = .ok (.if_icmp .le 7, 3) := by decide +kernel
theorem ddA_richest_36 : decode cA_richest 36 = .ok (.iload_n 2, 1) := by decide +kernel
theorem ddA_richest_37 : decode cA_richest 37 = .ok (.goto 4, 3) := by decide +kernel
theorem ddA_richest_40 : decode cA_richest 40 = .ok (.iload_n 1, 1) := by decide +kernel
theorem ddA_richest_41 : decode cA_richest 41 = .ok (.istore_n 1, 1) := by decide +kernel
theorem ddA_richest_42 : decode cA_richest 42 = .ok (.iinc 2 1, 3) := by decide +kernel
theorem ddA_richest_45 : decode cA_richest 45 = .ok (.goto (-41), 3) := by decide +kernel
theorem ddA_richest_48 : decode cA_richest 48 = .ok (.iload_n 1, 1) := by decide +kernel
theorem ddA_richest_49 : decode cA_richest 49 = .ok (.ireturn, 1) := by decide +kernel
set_option maxHeartbeats 2000000 in
theorem zBA_richest_41 {G : GXM} {X : CxM} (hG : GokM G) (C : CoM G X cA_richest "HomeFreed") (N : mLM X = 3) {d : Nat} (hD : dpM X = d) (hd : 1 ≤ d) {v0 : Nat} {K : Nat → Int32 → Int32 → Mem → Option ((Int32 × Mem))} {q : (Int32 × Mem)} (hK : ∀ (v1 : Int32) (v2 : Int32) (M : Mem), K v0 v1 v2 M = some q → ZM G X 4 [(0, .ref v0), (1, .int v1), (2, .int v2)] [] M 0 0) (hr : ∀ r : Int32 × Mem, q =  r → EnM G X (some .int) (some (.int r.1)) r.2 0 0) {v2 : Int32} {w0 : Int32} {M : Mem} (h : BA_richest_41 K v0 v2 w0 M = some q) : ZM G X 41 [(0, .ref v0), (2, .int v2)] [.int w0] M 0 0 := by
  unfold BA_richest_41 at h
  refine zz_istore_n (L1 := [(1, .int w0), (0, .ref v0), (2, .int v2)]) C ddA_richest_41 rfl N (by decide) rfl ?_
  refine zz_iinc (v := v2 + 1) (L1 := [(2, .int (v2 + 1)), (1, .int w0), (0, .ref v0)]) C 2 ddA_richest_42 rfl rfl N (by decide) rfl ?_
  refine zz_goto (tgt := 4) C ddA_richest_45 rfl ?_
  refine zz_loc (L1 := [(0, .ref v0), (1, .int w0), (2, .int (v2 + 1))]) [2, 1, 0] rfl ?_
  exact hK _ _ _ h
set_option maxHeartbeats 2000000 in
theorem zBA_richest_4 {G : GXM} {X : CxM} (hG : GokM G) (C : CoM G X cA_richest "HomeFreed") (N : mLM X = 3) {d : Nat} (hD : dpM X = d) (hd : 1 ≤ d) {v0 : Nat} {K : Nat → Int32 → Int32 → Mem → Option ((Int32 × Mem))} {q : (Int32 × Mem)} (hK : ∀ (v1 : Int32) (v2 : Int32) (M : Mem), K v0 v1 v2 M = some q → ZM G X 4 [(0, .ref v0), (1, .int v1), (2, .int v2)] [] M 0 0) (hr : ∀ r : Int32 × Mem, q =  r → EnM G X (some .int) (some (.int r.1)) r.2 0 0) {v1 : Int32} {v2 : Int32} {M : Mem} (h : BA_richest_4 K v0 v1 v2 M = some q) : ZM G X 4 [(0, .ref v0), (1, .int v1), (2, .int v2)] [] M 0 0 := by
  unfold BA_richest_4 at h
  refine zz_iload_n C 2 ddA_richest_4 rfl rfl ?_
  refine zz_aload_n C 0 ddA_richest_5 rfl rfl ?_
  obtain ⟨h1, h⟩ := gdN h
  obtain ⟨h2, h⟩ := gdN h
  refine zz_getr C ddA_richest_6 fl_A_28 rfl h1 (of_decide_eq_true h2) ?_
  obtain ⟨h3, h⟩ := gdN h
  obtain ⟨h4, h⟩ := gdN h
  refine zz_getr C ddA_richest_9 fl_A_136 rfl h3 (of_decide_eq_true h4) ?_
  refine zz_iconst (v := 0) C ddA_richest_12 (by decide) ?_
  obtain ⟨h5, h⟩ := gdN h
  refine zz_iaload C ddA_richest_13 h5 ?_
  refine zz_icmp_ge (tgt := 48) C ddA_richest_14 rfl (fun hc => ?_) (fun hc => ?_)
  · replace h := iteT h hc
    refine zz_iload_n C 1 ddA_richest_48 rfl rfl ?_
    exact zz_iret C (hr _ (Option.some.inj h).symm) ddA_richest_49
  · replace h := iteF h hc
    refine zz_aload_n C 0 ddA_richest_17 rfl rfl ?_
    obtain ⟨h6, h⟩ := gdN h
    refine zz_getr C ddA_richest_18 fl_A_55 rfl h1 (of_decide_eq_true h6) ?_
    refine zz_iload_n C 2 ddA_richest_21 rfl rfl ?_
    obtain ⟨h8, h⟩ := gdN h
    obtain ⟨q7, hq7, h⟩ := bindN h
    refine zz_callV0 (As := [.int v2]) C ddA_richest_22 wd_611 my_H_pagesOf mv_H_pagesOf ⟨_, rfl, rfl⟩ (xH_pagesOf hG (d - 1) (by omega) hq7) (by omega) h8 rfl rfl (Nat.le_of_ble_eq_true rfl) ?_
    refine zz_aload_n C 0 ddA_richest_25 rfl rfl ?_
    obtain ⟨h9, h⟩ := gdN h
    obtain ⟨h10, h⟩ := gdN h
    refine zz_getr C ddA_richest_26 fl_A_55 rfl h9 (of_decide_eq_true h10) ?_
    refine zz_iload_n C 1 ddA_richest_29 rfl rfl ?_
    obtain ⟨h12, h⟩ := gdN h
    obtain ⟨q11, hq11, h⟩ := bindN h
    refine zz_callV0 (As := [.int v1]) C ddA_richest_30 wd_611 my_H_pagesOf mv_H_pagesOf ⟨_, rfl, rfl⟩ (xH_pagesOf hG (d - 1) (by omega) hq11) (by omega) h12 rfl rfl (Nat.le_of_ble_eq_true rfl) ?_
    refine zz_icmp_le (tgt := 40) C ddA_richest_33 rfl (fun hc => ?_) (fun hc => ?_)
    · replace h := iteT h hc
      refine zz_iload_n C 1 ddA_richest_40 rfl rfl ?_
      refine zz_loc (L1 := [(0, .ref v0), (2, .int v2)]) [0, 2] rfl ?_
      exact zBA_richest_41 hG C N hD hd hK hr h
    · replace h := iteF h hc
      refine zz_iload_n C 2 ddA_richest_36 rfl rfl ?_
      refine zz_goto (tgt := 41) C ddA_richest_37 rfl ?_
      refine zz_loc (L1 := [(0, .ref v0), (2, .int v2)]) [0, 2] rfl ?_
      exact zBA_richest_41 hG C N hD hd hK hr h
set_option maxHeartbeats 2000000 in
theorem zLA_richest_4 {G : GXM} {X : CxM} (hG : GokM G) (C : CoM G X cA_richest "HomeFreed") (N : mLM X = 3) {d : Nat} (hD : dpM X = d) (hd : 1 ≤ d) {v0 : Nat} {q : (Int32 × Mem)} : ∀ (f : Nat) (v1 : Int32) (v2 : Int32) (M : Mem), LA_richest_4 f v0 v1 v2 M = some q → (hr : ∀ r : Int32 × Mem, q =  r → EnM G X (some .int) (some (.int r.1)) r.2 0 0) → ZM G X 4 [(0, .ref v0), (1, .int v1), (2, .int v2)] [] M 0 0 := by
  intro f
  induction f with
  | zero => intro v1 v2 M h; cases h
  | succ f ih =>
    intro v1 v2 M h hr
    exact zBA_richest_4 hG C N hD hd (K := LA_richest_4 f) (q := q) (fun v1 v2 M h => ih v1 v2 M h hr) hr h
set_option maxHeartbeats 2000000 in
theorem xA_richest {G : GXM} {l : Launch} (hG : GokM G) (d : Nat) (hd : 1 ≤ d) {v0 : Nat} {M : Mem} {q : Int32 × Mem} (h : fA_richest v0 M = some q) : ExM G l d 0 0 yA_richest cA_richest 3 (some .int) [.ref v0] M (some (.int q.1)) q.2 := by
  refine ex_of hG (by decide) (Nat.le_of_ble_eq_true rfl) ?_
  intro X hl C E N hD hn
  show ZM G X 0 [(2, .int v2), (1, .int v1), (0, .ref v0)] [] M 0 0
  unfold fA_richest at h
  refine zz_iconst (v := 0) C ddA_richest_0 (by decide) ?_
  refine zz_istore_n (L1 := [(1, .int 0), (0, .ref v0)]) C ddA_richest_1 rfl N (by decide) rfl ?_
  refine zz_iconst (v := 1) C ddA_richest_2 (by decide) ?_
  refine zz_istore_n (L1 := [(2, .int 1), (1, .int 0), (0, .ref v0)]) C ddA_richest_3 rfl N (by decide) rfl ?_
  refine zz_loc (L1 := [(0, .ref v0), (1, .int 0), (2, .int 1)]) [2, 1, 0] rfl ?_
  obtain ⟨q1, hq1, h⟩ := bindN h
  refine zLA_richest_4 hG C N hD hd 1000000 _ _ _ hq1 ?_
  · intro r2 eq1; subst eq1
    obtain rfl := Option.some.inj h
    exact E
theorem ddH_livingBits_0 : decode cH_livingBits 0 = .ok (.iconst 0, 1) := by decide +kernel
theorem ddH_livingBits_1 : decode cH_livingBits 1 = .ok (.istore_n 1, 1) := by decide +kernel
theorem ddH_livingBits_2 : decode cH_livingBits 2 = .ok (.iconst 0, 1) := by decide +kernel
theorem ddH_livingBits_3 : decode cH_livingBits 3 = .ok (.istore_n 2, 1) := by decide +kernel
theorem ddH_livingBits_4 : decode cH_livingBits 4 = .ok (.iload_n 2, 1) := by decide +kernel
theorem ddH_livingBits_5 : decode cH_livingBits 5 = .ok (.aload_n 0, 1) := by decide +kernel
theorem ddH_livingBits_6 : decode cH_livingBits 6 = .ok (.getfield 46, 3) := by decide +kernel
theorem ddH_livingBits_9 : decode cH_livingBits 9 = .ok (.getfield 76, 3) := by decide +kernel
theorem ddH_livingBits_12 : decode cH_livingBits 12 = .ok (.iconst 0, 1) := by decide +kernel
theorem ddH_livingBits_13 : decode cH_livingBits 13 = .ok (.iaload, 1) := by decide +kernel
theorem ddH_livingBits_14 : decode cH_livingBits 14 = .ok (.if_icmp .ge 20, 3) := by decide +kernel
theorem ddH_livingBits_17 : decode cH_livingBits 17 = .ok (.iload_n 1, 1) := by decide +kernel
theorem ddH_livingBits_18 : decode cH_livingBits 18 = .ok (.aload_n 0, 1) := by decide +kernel
theorem ddH_livingBits_19 : decode cH_livingBits 19 = .ok (.getfield 33, 3) := by decide +kernel
theorem ddH_livingBits_22 : decode cH_livingBits 22 = .ok (.iload_n 2, 1) := by decide +kernel
theorem ddH_livingBits_23 : decode cH_livingBits 23 = .ok (.iaload, 1) := by decide +kernel
theorem ddH_livingBits_24 : decode cH_livingBits 24 = .ok (.iload_n 2, 1) := by decide +kernel
theorem ddH_livingBits_25 : decode cH_livingBits 25 = .ok (.ishl, 1) := by decide +kernel
theorem ddH_livingBits_26 : decode cH_livingBits 26 = .ok (.ior, 1) := by decide +kernel
theorem ddH_livingBits_27 : decode cH_livingBits 27 = .ok (.istore_n 1, 1) := by decide +kernel
theorem ddH_livingBits_28 : decode cH_livingBits 28 = .ok (.iinc 2 1, 3) := by decide +kernel
theorem ddH_livingBits_31 : decode cH_livingBits 31 = .ok (.goto (-27), 3) := by decide +kernel
theorem ddH_livingBits_34 : decode cH_livingBits 34 = .ok (.iload_n 1, 1) := by decide +kernel
theorem ddH_livingBits_35 : decode cH_livingBits 35 = .ok (.ireturn, 1) := by decide +kernel
set_option maxHeartbeats 2000000 in
theorem zBH_livingBits_4 {G : GXM} {X : CxM} (hG : GokM G) (C : CoM G X cH_livingBits "HomeFreed$Heap") (N : mLM X = 3) {d : Nat} (hD : dpM X = d) (hd : 0 ≤ d) {v0 : Nat} {K : Nat → Int32 → Int32 → Mem → Option ((Int32 × Mem))} {q : (Int32 × Mem)} (hK : ∀ (v1 : Int32) (v2 : Int32) (M : Mem), K v0 v1 v2 M = some q → ZM G X 4 [(0, .ref v0), (1, .int v1), (2, .int v2)] [] M 0 0) (hr : ∀ r : Int32 × Mem, q =  r → EnM G X (some .int) (some (.int r.1)) r.2 0 0) {v1 : Int32} {v2 : Int32} {M : Mem} (h : BH_livingBits_4 K v0 v1 v2 M = some q) : ZM G X 4 [(0, .ref v0), (1, .int v1), (2, .int v2)] [] M 0 0 := by
  unfold BH_livingBits_4 at h
  refine zz_iload_n C 2 ddH_livingBits_4 rfl rfl ?_
  refine zz_aload_n C 0 ddH_livingBits_5 rfl rfl ?_
  obtain ⟨h1, h⟩ := gdN h
  obtain ⟨h2, h⟩ := gdN h
  refine zz_getr C ddH_livingBits_6 fl_H_46 rfl h1 (of_decide_eq_true h2) ?_
  obtain ⟨h3, h⟩ := gdN h
  obtain ⟨h4, h⟩ := gdN h
  refine zz_getr C ddH_livingBits_9 fl_H_76 rfl h3 (of_decide_eq_true h4) ?_
  refine zz_iconst (v := 0) C ddH_livingBits_12 (by decide) ?_
  obtain ⟨h5, h⟩ := gdN h
  refine zz_iaload C ddH_livingBits_13 h5 ?_
  refine zz_icmp_ge (tgt := 34) C ddH_livingBits_14 rfl (fun hc => ?_) (fun hc => ?_)
  · replace h := iteT h hc
    refine zz_iload_n C 1 ddH_livingBits_34 rfl rfl ?_
    exact zz_iret C (hr _ (Option.some.inj h).symm) ddH_livingBits_35
  · replace h := iteF h hc
    refine zz_iload_n C 1 ddH_livingBits_17 rfl rfl ?_
    refine zz_aload_n C 0 ddH_livingBits_18 rfl rfl ?_
    obtain ⟨h6, h⟩ := gdN h
    refine zz_getr C ddH_livingBits_19 fl_H_33 rfl h1 (of_decide_eq_true h6) ?_
    refine zz_iload_n C 2 ddH_livingBits_22 rfl rfl ?_
    obtain ⟨h7, h⟩ := gdN h
    refine zz_iaload C ddH_livingBits_23 h7 ?_
    refine zz_iload_n C 2 ddH_livingBits_24 rfl rfl ?_
    refine zz_ishl C ddH_livingBits_25 ?_
    refine zz_ior C ddH_livingBits_26 ?_
    refine zz_istore_n (L1 := [(1, .int (v1 ||| ((giM M (grM M v0 6) (Int32.toNatClampNeg v2)) <<< (v2 &&& 31)))), (0, .ref v0), (2, .int v2)]) C ddH_livingBits_27 rfl N (by decide) rfl ?_
    refine zz_iinc (v := v2 + 1) (L1 := [(2, .int (v2 + 1)), (1, .int (v1 ||| ((giM M (grM M v0 6) (Int32.toNatClampNeg v2)) <<< (v2 &&& 31)))), (0, .ref v0)]) C 2 ddH_livingBits_28 rfl rfl N (by decide) rfl ?_
    refine zz_goto (tgt := 4) C ddH_livingBits_31 rfl ?_
    refine zz_loc (L1 := [(0, .ref v0), (1, .int (v1 ||| ((giM M (grM M v0 6) (Int32.toNatClampNeg v2)) <<< (v2 &&& 31)))), (2, .int (v2 + 1))]) [2, 1, 0] rfl ?_
    exact hK _ _ _ h
set_option maxHeartbeats 2000000 in
theorem zLH_livingBits_4 {G : GXM} {X : CxM} (hG : GokM G) (C : CoM G X cH_livingBits "HomeFreed$Heap") (N : mLM X = 3) {d : Nat} (hD : dpM X = d) (hd : 0 ≤ d) {v0 : Nat} {q : (Int32 × Mem)} : ∀ (f : Nat) (v1 : Int32) (v2 : Int32) (M : Mem), LH_livingBits_4 f v0 v1 v2 M = some q → (hr : ∀ r : Int32 × Mem, q =  r → EnM G X (some .int) (some (.int r.1)) r.2 0 0) → ZM G X 4 [(0, .ref v0), (1, .int v1), (2, .int v2)] [] M 0 0 := by
  intro f
  induction f with
  | zero => intro v1 v2 M h; cases h
  | succ f ih =>
    intro v1 v2 M h hr
    exact zBH_livingBits_4 hG C N hD hd (K := LH_livingBits_4 f) (q := q) (fun v1 v2 M h => ih v1 v2 M h hr) hr h
set_option maxHeartbeats 2000000 in
theorem xH_livingBits {G : GXM} {l : Launch} (hG : GokM G) (d : Nat) (hd : 0 ≤ d) {v0 : Nat} {M : Mem} {q : Int32 × Mem} (h : fH_livingBits v0 M = some q) : ExM G l d 0 0 yH_livingBits cH_livingBits 3 (some .int) [.ref v0] M (some (.int q.1)) q.2 := by
  refine ex_of hG (by decide) (Nat.le_of_ble_eq_true rfl) ?_
  intro X hl C E N hD hn
  show ZM G X 0 [(2, .int v2), (1, .int v1), (0, .ref v0)] [] M 0 0
  unfold fH_livingBits at h
  refine zz_iconst (v := 0) C ddH_livingBits_0 (by decide) ?_
  refine zz_istore_n (L1 := [(1, .int 0), (0, .ref v0)]) C ddH_livingBits_1 rfl N (by decide) rfl ?_
  refine zz_iconst (v := 0) C ddH_livingBits_2 (by decide) ?_
  refine zz_istore_n (L1 := [(2, .int 0), (1, .int 0), (0, .ref v0)]) C ddH_livingBits_3 rfl N (by decide) rfl ?_
  refine zz_loc (L1 := [(0, .ref v0), (1, .int 0), (2, .int 0)]) [2, 1, 0] rfl ?_
  obtain ⟨q1, hq1, h⟩ := bindN h
  refine zLH_livingBits_4 hG C N hD hd 1000000 _ _ _ hq1 ?_
  · intro r2 eq1; subst eq1
    obtain rfl := Option.some.inj h
    exact E
theorem ddH_stateOf_0 : decode cH_stateOf 0 = .ok (.aload_n 0, 1) := by decide +kernel
theorem ddH_stateOf_1 : decode cH_stateOf 1 = .ok (.getfield 9, 3) := by decide +kernel
theorem ddH_stateOf_4 : decode cH_stateOf 4 = .ok (.iload_n 1, 1) := by decide +kernel
theorem ddH_stateOf_5 : decode cH_stateOf 5 = .ok (.iaload, 1) := by decide +kernel
theorem ddH_stateOf_6 : decode cH_stateOf 6 = .ok (.iconst (-1), 1) := by decide +kernel
theorem ddH_stateOf_7 : decode cH_stateOf 7 = .ok (.if_icmp .ne 5, 3) := by decide +kernel
theorem ddH_stateOf_10 : decode cH_stateOf 10 = .ok (.iconst 0, 1) := by decide +kernel
theorem ddH_stateOf_11 : decode cH_stateOf 11 = .ok (.ireturn, 1) := by decide +kernel
theorem ddH_stateOf_12 : decode cH_stateOf 12 = .ok (.aload_n 0, 1) := by decide +kernel
theorem ddH_stateOf_13 : decode cH_stateOf 13 = .ok (.getfield 15, 3) := by decide +kernel
theorem ddH_stateOf_16 : decode cH_stateOf 16 = .ok (.iload_n 1, 1) := by decide +kernel
theorem ddH_stateOf_17 : decode cH_stateOf 17 = .ok (.iaload, 1) := by decide +kernel
theorem ddH_stateOf_18 : decode cH_stateOf 18 = .ok (.iconst (-1), 1) := by decide +kernel
theorem ddH_stateOf_19 : decode cH_stateOf 19 = .ok (.if_icmp .ne 5, 3) := by decide +kernel
theorem ddH_stateOf_22 : decode cH_stateOf 22 = .ok (.iconst 3, 1) := by decide +kernel
theorem ddH_stateOf_23 : decode cH_stateOf 23 = .ok (.ireturn, 1) := by decide +kernel
theorem ddH_stateOf_24 : decode cH_stateOf 24 = .ok (.aload_n 0, 1) := by decide +kernel
theorem ddH_stateOf_25 : decode cH_stateOf 25 = .ok (.getfield 26, 3) := by decide +kernel
theorem ddH_stateOf_28 : decode cH_stateOf 28 = .ok (.getfield 88, 3) := by decide +kernel
theorem ddH_stateOf_31 : decode cH_stateOf 31 = .ok (.iload_n 1, 1) := by decide +kernel
theorem ddH_stateOf_32 : decode cH_stateOf 32 = .ok (.iaload, 1) := by decide +kernel
theorem ddH_stateOf_33 : decode cH_stateOf 33 = .ok (.iconst (-1), 1) := by decide +kernel
theorem ddH_stateOf_34 : decode cH_stateOf 34 = .ok (.if_icmp .ne 7, 3) := by decide +kernel
theorem ddH_stateOf_37 : decode cH_stateOf 37 = .ok (.iconst 2, 1) := by decide +kernel
theorem ddH_stateOf_38 : decode cH_stateOf 38 = .ok (.goto 4, 3) := by decide +kernel
theorem ddH_stateOf_41 : decode cH_stateOf 41 = .ok (.iconst 1, 1) := by decide +kernel
theorem ddH_stateOf_42 : decode cH_stateOf 42 = .ok (.ireturn, 1) := by decide +kernel
set_option maxHeartbeats 2000000 in
theorem zBH_stateOf_42 {G : GXM} {X : CxM} (hG : GokM G) (C : CoM G X cH_stateOf "HomeFreed$Heap") (N : mLM X = 2) {d : Nat} (hD : dpM X = d) (hd : 0 ≤ d)  {q : Int32 × Mem} (E : EnM G X (some .int) (some (.int q.1)) q.2 0 0) {w0 : Int32} {M : Mem} (h : BH_stateOf_42 w0 M = some q) : ZM G X 42 [] [.int w0] M 0 0 := by
  unfold BH_stateOf_42 at h
  obtain rfl := Option.some.inj h
  exact zz_iret C E ddH_stateOf_42
set_option maxHeartbeats 2000000 in
theorem xH_stateOf {G : GXM} {l : Launch} (hG : GokM G) (d : Nat) (hd : 0 ≤ d) {v0 : Nat} {v1 : Int32} {M : Mem} {q : Int32 × Mem} (h : fH_stateOf v0 v1 M = some q) : ExM G l d 0 0 yH_stateOf cH_stateOf 2 (some .int) [.ref v0, .int v1] M (some (.int q.1)) q.2 := by
  refine ex_of hG (by decide) (Nat.le_of_ble_eq_true rfl) ?_
  intro X hl C E N hD hn
  show ZM G X 0 [(0, .ref v0), (1, .int v1)] [] M 0 0
  unfold fH_stateOf at h
  refine zz_aload_n C 0 ddH_stateOf_0 rfl rfl ?_
  obtain ⟨h1, h⟩ := gdN h
  obtain ⟨h2, h⟩ := gdN h
  refine zz_getr C ddH_stateOf_1 fl_H_9 rfl h1 (of_decide_eq_true h2) ?_
  refine zz_iload_n C 1 ddH_stateOf_4 rfl rfl ?_
  obtain ⟨h3, h⟩ := gdN h
  refine zz_iaload C ddH_stateOf_5 h3 ?_
  refine zz_iconst (v := (-1)) C ddH_stateOf_6 (by decide) ?_
  refine zz_icmp_ne (tgt := 12) C ddH_stateOf_7 rfl (fun hc => ?_) (fun hc => ?_)
  · replace h := iteF h hc
    refine zz_aload_n C 0 ddH_stateOf_12 rfl rfl ?_
    obtain ⟨h4, h⟩ := gdN h
    refine zz_getr C ddH_stateOf_13 fl_H_15 rfl h1 (of_decide_eq_true h4) ?_
    refine zz_iload_n C 1 ddH_stateOf_16 rfl rfl ?_
    obtain ⟨h5, h⟩ := gdN h
    refine zz_iaload C ddH_stateOf_17 h5 ?_
    refine zz_iconst (v := (-1)) C ddH_stateOf_18 (by decide) ?_
    refine zz_icmp_ne (tgt := 24) C ddH_stateOf_19 rfl (fun hc => ?_) (fun hc => ?_)
    · replace h := iteF h hc
      refine zz_aload_n C 0 ddH_stateOf_24 rfl rfl ?_
      obtain ⟨h6, h⟩ := gdN h
      refine zz_getr C ddH_stateOf_25 fl_H_26 rfl h1 (of_decide_eq_true h6) ?_
      obtain ⟨h7, h⟩ := gdN h
      obtain ⟨h8, h⟩ := gdN h
      refine zz_getr C ddH_stateOf_28 fl_H_88 rfl h7 (of_decide_eq_true h8) ?_
      refine zz_iload_n C 1 ddH_stateOf_31 rfl rfl ?_
      obtain ⟨h9, h⟩ := gdN h
      refine zz_iaload C ddH_stateOf_32 h9 ?_
      refine zz_iconst (v := (-1)) C ddH_stateOf_33 (by decide) ?_
      refine zz_icmp_ne (tgt := 41) C ddH_stateOf_34 rfl (fun hc => ?_) (fun hc => ?_)
      · replace h := iteF h hc
        refine zz_iconst (v := 1) C ddH_stateOf_41 (by decide) ?_
        refine zz_loc (L1 := []) [] rfl ?_
        exact zBH_stateOf_42 hG C N hD hd E h
      · replace h := iteT h hc
        refine zz_iconst (v := 2) C ddH_stateOf_37 (by decide) ?_
        refine zz_goto (tgt := 42) C ddH_stateOf_38 rfl ?_
        refine zz_loc (L1 := []) [] rfl ?_
        exact zBH_stateOf_42 hG C N hD hd E h
    · replace h := iteT h hc
      refine zz_iconst (v := 3) C ddH_stateOf_22 (by decide) ?_
      obtain rfl := Option.some.inj h
      exact zz_iret C E ddH_stateOf_23
  · replace h := iteT h hc
    refine zz_iconst (v := 0) C ddH_stateOf_10 (by decide) ?_
    obtain rfl := Option.some.inj h
    exact zz_iret C E ddH_stateOf_11
theorem ddH_bitsOf_0 : decode cH_bitsOf 0 = .ok (.iconst 0, 1) := by decide +kernel
theorem ddH_bitsOf_1 : decode cH_bitsOf 1 = .ok (.istore_n 2, 1) := by decide +kernel
theorem ddH_bitsOf_2 : decode cH_bitsOf 2 = .ok (.iconst 0, 1) := by decide +kernel
theorem ddH_bitsOf_3 : decode cH_bitsOf 3 = .ok (.istore_n 3, 1) := by decide +kernel
theorem ddH_bitsOf_4 : decode cH_bitsOf 4 = .ok (.iload_n 3, 1) := by decide +kernel
theorem ddH_bitsOf_5 : decode cH_bitsOf 5 = .ok (.aload_n 0, 1) := by decide +kernel
theorem ddH_bitsOf_6 : decode cH_bitsOf 6 = .ok (.getfield 46, 3) := by decide +kernel
theorem ddH_bitsOf_9 : decode cH_bitsOf 9 = .ok (.getfield 76, 3) := by decide +kernel
theorem ddH_bitsOf_12 : decode cH_bitsOf 12 = .ok (.iconst 1, 1) := by decide +kernel
theorem ddH_bitsOf_13 : decode cH_bitsOf 13 = .ok (.iaload, 1) := by decide +kernel
theorem ddH_bitsOf_14 : decode cH_bitsOf 14 = .ok (.if_icmp .ge 28, 3) := by decide +kernel
theorem ddH_bitsOf_17 : decode cH_bitsOf 17 = .ok (.iload_n 2, 1) := by decide +kernel
theorem ddH_bitsOf_18 : decode cH_bitsOf 18 = .ok (.aload_n 0, 1) := by decide +kernel
theorem ddH_bitsOf_19 : decode cH_bitsOf 19 = .ok (.iload_n 3, 1) := by decide +kernel
theorem ddH_bitsOf_20 : decode cH_bitsOf 20 = .ok (.invokevirtual 108, 3) := by decide +kernel
theorem ddH_bitsOf_23 : decode cH_bitsOf 23 = .ok (.iload_n 1, 1) := by decide +kernel
theorem ddH_bitsOf_24 : decode cH_bitsOf 24 = .ok (.if_icmp .ne 9, 3) := by decide +kernel
theorem ddH_bitsOf_27 : decode cH_bitsOf 27 = .ok (.iconst 1, 1) := by decide +kernel
theorem ddH_bitsOf_28 : decode cH_bitsOf 28 = .ok (.iload_n 3, 1) := by decide +kernel
theorem ddH_bitsOf_29 : decode cH_bitsOf 29 = .ok (.ishl, 1) := by decide +kernel
theorem ddH_bitsOf_30 : decode cH_bitsOf 30 = .ok (.goto 4, 3) := by decide +kernel
theorem ddH_bitsOf_33 : decode cH_bitsOf 33 = .ok (.iconst 0, 1) := by decide +kernel
theorem ddH_bitsOf_34 : decode cH_bitsOf 34 = .ok (.ior, 1) := by decide +kernel
theorem ddH_bitsOf_35 : decode cH_bitsOf 35 = .ok (.istore_n 2, 1) := by decide +kernel
theorem ddH_bitsOf_36 : decode cH_bitsOf 36 = .ok (.iinc 3 1, 3) := by decide +kernel
theorem ddH_bitsOf_39 : decode cH_bitsOf 39 = .ok (.goto (-35), 3) := by decide +kernel
theorem ddH_bitsOf_42 : decode cH_bitsOf 42 = .ok (.iload_n 2, 1) := by decide +kernel
theorem ddH_bitsOf_43 : decode cH_bitsOf 43 = .ok (.ireturn, 1) := by decide +kernel
set_option maxHeartbeats 2000000 in
theorem zBH_bitsOf_34 {G : GXM} {X : CxM} (hG : GokM G) (C : CoM G X cH_bitsOf "HomeFreed$Heap") (N : mLM X = 4) {d : Nat} (hD : dpM X = d) (hd : 1 ≤ d) {v0 : Nat} {v1 : Int32} {K : Nat → Int32 → Int32 → Int32 → Mem → Option ((Int32 × Mem))} {q : (Int32 × Mem)} (hK : ∀ (v2 : Int32) (v3 : Int32) (M : Mem), K v0 v1 v2 v3 M = some q → ZM G X 4 [(0, .ref v0), (1, .int v1), (2, .int v2), (3, .int v3)] [] M 0 0) (hr : ∀ r : Int32 × Mem, q =  r → EnM G X (some .int) (some (.int r.1)) r.2 0 0) {v3 : Int32} {w0 : Int32} {w1 : Int32} {M : Mem} (h : BH_bitsOf_34 K v0 v1 v3 w0 w1 M = some q) : ZM G X 34 [(0, .ref v0), (1, .int v1), (3, .int v3)] [.int w1, .int w0] M 0 0 := by
  unfold BH_bitsOf_34 at h
  refine zz_ior C ddH_bitsOf_34 ?_
  refine zz_istore_n (L1 := [(2, .int (w0 ||| w1)), (0, .ref v0), (1, .int v1), (3, .int v3)]) C ddH_bitsOf_35 rfl N (by decide) rfl ?_
  refine zz_iinc (v := v3 + 1) (L1 := [(3, .int (v3 + 1)), (2, .int (w0 ||| w1)), (0, .ref v0), (1, .int v1)]) C 3 ddH_bitsOf_36 rfl rfl N (by decide) rfl ?_
  refine zz_goto (tgt := 4) C ddH_bitsOf_39 rfl ?_
  refine zz_loc (L1 := [(0, .ref v0), (1, .int v1), (2, .int (w0 ||| w1)), (3, .int (v3 + 1))]) [2, 3, 1, 0] rfl ?_
  exact hK _ _ _ h
set_option maxHeartbeats 2000000 in
theorem zBH_bitsOf_4 {G : GXM} {X : CxM} (hG : GokM G) (C : CoM G X cH_bitsOf "HomeFreed$Heap") (N : mLM X = 4) {d : Nat} (hD : dpM X = d) (hd : 1 ≤ d) {v0 : Nat} {v1 : Int32} {K : Nat → Int32 → Int32 → Int32 → Mem → Option ((Int32 × Mem))} {q : (Int32 × Mem)} (hK : ∀ (v2 : Int32) (v3 : Int32) (M : Mem), K v0 v1 v2 v3 M = some q → ZM G X 4 [(0, .ref v0), (1, .int v1), (2, .int v2), (3, .int v3)] [] M 0 0) (hr : ∀ r : Int32 × Mem, q =  r → EnM G X (some .int) (some (.int r.1)) r.2 0 0) {v2 : Int32} {v3 : Int32} {M : Mem} (h : BH_bitsOf_4 K v0 v1 v2 v3 M = some q) : ZM G X 4 [(0, .ref v0), (1, .int v1), (2, .int v2), (3, .int v3)] [] M 0 0 := by
  unfold BH_bitsOf_4 at h
  refine zz_iload_n C 3 ddH_bitsOf_4 rfl rfl ?_
  refine zz_aload_n C 0 ddH_bitsOf_5 rfl rfl ?_
  obtain ⟨h1, h⟩ := gdN h
  obtain ⟨h2, h⟩ := gdN h
  refine zz_getr C ddH_bitsOf_6 fl_H_46 rfl h1 (of_decide_eq_true h2) ?_
  obtain ⟨h3, h⟩ := gdN h
  obtain ⟨h4, h⟩ := gdN h
  refine zz_getr C ddH_bitsOf_9 fl_H_76 rfl h3 (of_decide_eq_true h4) ?_
  refine zz_iconst (v := 1) C ddH_bitsOf_12 (by decide) ?_
  obtain ⟨h5, h⟩ := gdN h
  refine zz_iaload C ddH_bitsOf_13 h5 ?_
  refine zz_icmp_ge (tgt := 42) C ddH_bitsOf_14 rfl (fun hc => ?_) (fun hc => ?_)
  · replace h := iteT h hc
    refine zz_iload_n C 2 ddH_bitsOf_42 rfl rfl ?_
    exact zz_iret C (hr _ (Option.some.inj h).symm) ddH_bitsOf_43
  · replace h := iteF h hc
    refine zz_iload_n C 2 ddH_bitsOf_17 rfl rfl ?_
    refine zz_aload_n C 0 ddH_bitsOf_18 rfl rfl ?_
    refine zz_iload_n C 3 ddH_bitsOf_19 rfl rfl ?_
    obtain ⟨q6, hq6, h⟩ := bindN h
    refine zz_callV0 (As := [.int v3]) C ddH_bitsOf_20 wd_1045 my_H_stateOf mv_H_stateOf ⟨_, rfl, rfl⟩ (xH_stateOf hG (d - 1) (by omega) hq6) (by omega) h1 rfl rfl (Nat.le_of_ble_eq_true rfl) ?_
    refine zz_iload_n C 1 ddH_bitsOf_23 rfl rfl ?_
    refine zz_icmp_ne (tgt := 33) C ddH_bitsOf_24 rfl (fun hc => ?_) (fun hc => ?_)
    · replace h := iteF h hc
      refine zz_iconst (v := 0) C ddH_bitsOf_33 (by decide) ?_
      refine zz_loc (L1 := [(0, .ref v0), (1, .int v1), (3, .int v3)]) [0, 1, 3] rfl ?_
      exact zBH_bitsOf_34 hG C N hD hd hK hr h
    · replace h := iteT h hc
      refine zz_iconst (v := 1) C ddH_bitsOf_27 (by decide) ?_
      refine zz_iload_n C 3 ddH_bitsOf_28 rfl rfl ?_
      refine zz_ishl C ddH_bitsOf_29 ?_
      refine zz_goto (tgt := 34) C ddH_bitsOf_30 rfl ?_
      refine zz_loc (L1 := [(0, .ref v0), (1, .int v1), (3, .int v3)]) [0, 1, 3] rfl ?_
      exact zBH_bitsOf_34 hG C N hD hd hK hr h
set_option maxHeartbeats 2000000 in
theorem zLH_bitsOf_4 {G : GXM} {X : CxM} (hG : GokM G) (C : CoM G X cH_bitsOf "HomeFreed$Heap") (N : mLM X = 4) {d : Nat} (hD : dpM X = d) (hd : 1 ≤ d) {v0 : Nat} {v1 : Int32} {q : (Int32 × Mem)} : ∀ (f : Nat) (v2 : Int32) (v3 : Int32) (M : Mem), LH_bitsOf_4 f v0 v1 v2 v3 M = some q → (hr : ∀ r : Int32 × Mem, q =  r → EnM G X (some .int) (some (.int r.1)) r.2 0 0) → ZM G X 4 [(0, .ref v0), (1, .int v1), (2, .int v2), (3, .int v3)] [] M 0 0 := by
  intro f
  induction f with
  | zero => intro v2 v3 M h; cases h
  | succ f ih =>
    intro v2 v3 M h hr
    exact zBH_bitsOf_4 hG C N hD hd (K := LH_bitsOf_4 f) (q := q) (fun v2 v3 M h => ih v2 v3 M h hr) hr h
set_option maxHeartbeats 2000000 in
theorem xH_bitsOf {G : GXM} {l : Launch} (hG : GokM G) (d : Nat) (hd : 1 ≤ d) {v0 : Nat} {v1 : Int32} {M : Mem} {q : Int32 × Mem} (h : fH_bitsOf v0 v1 M = some q) : ExM G l d 0 0 yH_bitsOf cH_bitsOf 4 (some .int) [.ref v0, .int v1] M (some (.int q.1)) q.2 := by
  refine ex_of hG (by decide) (Nat.le_of_ble_eq_true rfl) ?_
  intro X hl C E N hD hn
  show ZM G X 0 [(3, .int v3), (2, .int v2), (0, .ref v0), (1, .int v1)] [] M 0 0
  unfold fH_bitsOf at h
  refine zz_iconst (v := 0) C ddH_bitsOf_0 (by decide) ?_
  refine zz_istore_n (L1 := [(2, .int 0), (0, .ref v0), (1, .int v1)]) C ddH_bitsOf_1 rfl N (by decide) rfl ?_
  refine zz_iconst (v := 0) C ddH_bitsOf_2 (by decide) ?_
  refine zz_istore_n (L1 := [(3, .int 0), (2, .int 0), (0, .ref v0), (1, .int v1)]) C ddH_bitsOf_3 rfl N (by decide) rfl ?_
  refine zz_loc (L1 := [(0, .ref v0), (1, .int v1), (2, .int 0), (3, .int 0)]) [2, 3, 1, 0] rfl ?_
  obtain ⟨q1, hq1, h⟩ := bindN h
  refine zLH_bitsOf_4 hG C N hD hd 1000000 _ _ _ hq1 ?_
  · intro r2 eq1; subst eq1
    obtain rfl := Option.some.inj h
    exact E
theorem ddH_outInAll_0 : decode cH_outInAll 0 = .ok (.iconst 0, 1) := by decide +kernel
theorem ddH_outInAll_1 : decode cH_outInAll 1 = .ok (.istore_n 1, 1) := by decide +kernel
theorem ddH_outInAll_2 : decode cH_outInAll 2 = .ok (.iconst 0, 1) := by decide +kernel
theorem ddH_outInAll_3 : decode cH_outInAll 3 = .ok (.istore_n 2, 1) := by decide +kernel
theorem ddH_outInAll_4 : decode cH_outInAll 4 = .ok (.iload_n 2, 1) := by decide +kernel
theorem ddH_outInAll_5 : decode cH_outInAll 5 = .ok (.aload_n 0, 1) := by decide +kernel
theorem ddH_outInAll_6 : decode cH_outInAll 6 = .ok (.getfield 46, 3) := by decide +kernel
theorem ddH_outInAll_9 : decode cH_outInAll 9 = .ok (.getfield 76, 3) := by decide +kernel
theorem ddH_outInAll_12 : decode cH_outInAll 12 = .ok (.iconst 0, 1) := by decide +kernel
theorem ddH_outInAll_13 : decode cH_outInAll 13 = .ok (.iaload, 1) := by decide +kernel
theorem ddH_outInAll_14 : decode cH_outInAll 14 = .ok (.if_icmp .ge 17, 3) := by decide +kernel
theorem ddH_outInAll_17 : decode cH_outInAll 17 = .ok (.iload_n 1, 1) := by decide +kernel
theorem ddH_outInAll_18 : decode cH_outInAll 18 = .ok (.aload_n 0, 1) := by decide +kernel
theorem ddH_outInAll_19 : decode cH_outInAll 19 = .ok (.iload_n 2, 1) := by decide +kernel
theorem ddH_outInAll_20 : decode cH_outInAll 20 = .ok (.invokevirtual 111, 3) := by decide +kernel
theorem ddH_outInAll_23 : decode cH_outInAll 23 = .ok (.iadd, 1) := by decide +kernel
theorem ddH_outInAll_24 : decode cH_outInAll 24 = .ok (.istore_n 1, 1) := by decide +kernel
theorem ddH_outInAll_25 : decode cH_outInAll 25 = .ok (.iinc 2 1, 3) := by decide +kernel
theorem ddH_outInAll_28 : decode cH_outInAll 28 = .ok (.goto (-24), 3) := by decide +kernel
theorem ddH_outInAll_31 : decode cH_outInAll 31 = .ok (.iload_n 1, 1) := by decide +kernel
theorem ddH_outInAll_32 : decode cH_outInAll 32 = .ok (.ireturn, 1) := by decide +kernel
set_option maxHeartbeats 2000000 in
theorem zBH_outInAll_4 {G : GXM} {X : CxM} (hG : GokM G) (C : CoM G X cH_outInAll "HomeFreed$Heap") (N : mLM X = 3) {d : Nat} (hD : dpM X = d) (hd : 2 ≤ d) {v0 : Nat} {K : Nat → Int32 → Int32 → Mem → Option ((Int32 × Mem))} {q : (Int32 × Mem)} (hK : ∀ (v1 : Int32) (v2 : Int32) (M : Mem), K v0 v1 v2 M = some q → ZM G X 4 [(0, .ref v0), (1, .int v1), (2, .int v2)] [] M 0 0) (hr : ∀ r : Int32 × Mem, q =  r → EnM G X (some .int) (some (.int r.1)) r.2 0 0) {v1 : Int32} {v2 : Int32} {M : Mem} (h : BH_outInAll_4 K v0 v1 v2 M = some q) : ZM G X 4 [(0, .ref v0), (1, .int v1), (2, .int v2)] [] M 0 0 := by
  unfold BH_outInAll_4 at h
  refine zz_iload_n C 2 ddH_outInAll_4 rfl rfl ?_
  refine zz_aload_n C 0 ddH_outInAll_5 rfl rfl ?_
  obtain ⟨h1, h⟩ := gdN h
  obtain ⟨h2, h⟩ := gdN h
  refine zz_getr C ddH_outInAll_6 fl_H_46 rfl h1 (of_decide_eq_true h2) ?_
  obtain ⟨h3, h⟩ := gdN h
  obtain ⟨h4, h⟩ := gdN h
  refine zz_getr C ddH_outInAll_9 fl_H_76 rfl h3 (of_decide_eq_true h4) ?_
  refine zz_iconst (v := 0) C ddH_outInAll_12 (by decide) ?_
  obtain ⟨h5, h⟩ := gdN h
  refine zz_iaload C ddH_outInAll_13 h5 ?_
  refine zz_icmp_ge (tgt := 31) C ddH_outInAll_14 rfl (fun hc => ?_) (fun hc => ?_)
  · replace h := iteT h hc
    refine zz_iload_n C 1 ddH_outInAll_31 rfl rfl ?_
    exact zz_iret C (hr _ (Option.some.inj h).symm) ddH_outInAll_32
  · replace h := iteF h hc
    refine zz_iload_n C 1 ddH_outInAll_17 rfl rfl ?_
    refine zz_aload_n C 0 ddH_outInAll_18 rfl rfl ?_
    refine zz_iload_n C 2 ddH_outInAll_19 rfl rfl ?_
    obtain ⟨q6, hq6, h⟩ := bindN h
    refine zz_callV0 (As := [.int v2]) C ddH_outInAll_20 wd_1053 my_H_outOf mv_H_outOf ⟨_, rfl, rfl⟩ (xH_outOf hG (d - 1) (by omega) hq6) (by omega) h1 rfl rfl (Nat.le_of_ble_eq_true rfl) ?_
    refine zz_iadd C ddH_outInAll_23 ?_
    refine zz_istore_n (L1 := [(1, .int (v1 + q6.1)), (0, .ref v0), (2, .int v2)]) C ddH_outInAll_24 rfl N (by decide) rfl ?_
    refine zz_iinc (v := v2 + 1) (L1 := [(2, .int (v2 + 1)), (1, .int (v1 + q6.1)), (0, .ref v0)]) C 2 ddH_outInAll_25 rfl rfl N (by decide) rfl ?_
    refine zz_goto (tgt := 4) C ddH_outInAll_28 rfl ?_
    refine zz_loc (L1 := [(0, .ref v0), (1, .int (v1 + q6.1)), (2, .int (v2 + 1))]) [2, 1, 0] rfl ?_
    exact hK _ _ _ h
set_option maxHeartbeats 2000000 in
theorem zLH_outInAll_4 {G : GXM} {X : CxM} (hG : GokM G) (C : CoM G X cH_outInAll "HomeFreed$Heap") (N : mLM X = 3) {d : Nat} (hD : dpM X = d) (hd : 2 ≤ d) {v0 : Nat} {q : (Int32 × Mem)} : ∀ (f : Nat) (v1 : Int32) (v2 : Int32) (M : Mem), LH_outInAll_4 f v0 v1 v2 M = some q → (hr : ∀ r : Int32 × Mem, q =  r → EnM G X (some .int) (some (.int r.1)) r.2 0 0) → ZM G X 4 [(0, .ref v0), (1, .int v1), (2, .int v2)] [] M 0 0 := by
  intro f
  induction f with
  | zero => intro v1 v2 M h; cases h
  | succ f ih =>
    intro v1 v2 M h hr
    exact zBH_outInAll_4 hG C N hD hd (K := LH_outInAll_4 f) (q := q) (fun v1 v2 M h => ih v1 v2 M h hr) hr h
set_option maxHeartbeats 2000000 in
theorem xH_outInAll {G : GXM} {l : Launch} (hG : GokM G) (d : Nat) (hd : 2 ≤ d) {v0 : Nat} {M : Mem} {q : Int32 × Mem} (h : fH_outInAll v0 M = some q) : ExM G l d 0 0 yH_outInAll cH_outInAll 3 (some .int) [.ref v0] M (some (.int q.1)) q.2 := by
  refine ex_of hG (by decide) (Nat.le_of_ble_eq_true rfl) ?_
  intro X hl C E N hD hn
  show ZM G X 0 [(2, .int v2), (1, .int v1), (0, .ref v0)] [] M 0 0
  unfold fH_outInAll at h
  refine zz_iconst (v := 0) C ddH_outInAll_0 (by decide) ?_
  refine zz_istore_n (L1 := [(1, .int 0), (0, .ref v0)]) C ddH_outInAll_1 rfl N (by decide) rfl ?_
  refine zz_iconst (v := 0) C ddH_outInAll_2 (by decide) ?_
  refine zz_istore_n (L1 := [(2, .int 0), (1, .int 0), (0, .ref v0)]) C ddH_outInAll_3 rfl N (by decide) rfl ?_
  refine zz_loc (L1 := [(0, .ref v0), (1, .int 0), (2, .int 0)]) [2, 1, 0] rfl ?_
  obtain ⟨q1, hq1, h⟩ := bindN h
  refine zLH_outInAll_4 hG C N hD hd 1000000 _ _ _ hq1 ?_
  · intro r2 eq1; subst eq1
    obtain rfl := Option.some.inj h
    exact E
theorem ddH_idleUnits_0 : decode cH_idleUnits 0 = .ok (.iconst 0, 1) := by decide +kernel
theorem ddH_idleUnits_1 : decode cH_idleUnits 1 = .ok (.istore_n 1, 1) := by decide +kernel
theorem ddH_idleUnits_2 : decode cH_idleUnits 2 = .ok (.iconst 0, 1) := by decide +kernel
theorem ddH_idleUnits_3 : decode cH_idleUnits 3 = .ok (.istore_n 2, 1) := by decide +kernel
theorem ddH_idleUnits_4 : decode cH_idleUnits 4 = .ok (.iload_n 2, 1) := by decide +kernel
theorem ddH_idleUnits_5 : decode cH_idleUnits 5 = .ok (.aload_n 0, 1) := by decide +kernel
theorem ddH_idleUnits_6 : decode cH_idleUnits 6 = .ok (.getfield 46, 3) := by decide +kernel
theorem ddH_idleUnits_9 : decode cH_idleUnits 9 = .ok (.getfield 76, 3) := by decide +kernel
theorem ddH_idleUnits_12 : decode cH_idleUnits 12 = .ok (.iconst 1, 1) := by decide +kernel
theorem ddH_idleUnits_13 : decode cH_idleUnits 13 = .ok (.iaload, 1) := by decide +kernel
theorem ddH_idleUnits_14 : decode cH_idleUnits 14 = .ok (.if_icmp .ge 58, 3) := by decide +kernel
theorem ddH_idleUnits_17 : decode cH_idleUnits 17 = .ok (.aload_n 0, 1) := by decide +kernel
theorem ddH_idleUnits_18 : decode cH_idleUnits 18 = .ok (.getfield 46, 3) := by decide +kernel
theorem ddH_idleUnits_21 : decode cH_idleUnits 21 = .ok (.aload_n 0, 1) := by decide +kernel
theorem ddH_idleUnits_22 : decode cH_idleUnits 22 = .ok (.getfield 9, 3) := by decide +kernel
theorem ddH_idleUnits_25 : decode cH_idleUnits 25 = .ok (.iload_n 2, 1) := by decide +kernel
theorem ddH_idleUnits_26 : decode cH_idleUnits 26 = .ok (.iaload, 1) := by decide +kernel
theorem ddH_idleUnits_27 : decode cH_idleUnits 27 = .ok (.invokevirtual 114, 3) := by decide +kernel
theorem ddH_idleUnits_30 : decode cH_idleUnits 30 = .ok (.ifCond .eq 36, 3) := by decide +kernel
theorem ddH_idleUnits_33 : decode cH_idleUnits 33 = .ok (.iload_n 1, 1) := by decide +kernel
theorem ddH_idleUnits_34 : decode cH_idleUnits 34 = .ok (.aload_n 0, 1) := by decide +kernel
theorem ddH_idleUnits_35 : decode cH_idleUnits 35 = .ok (.getfield 46, 3) := by decide +kernel
theorem ddH_idleUnits_38 : decode cH_idleUnits 38 = .ok (.getfield 76, 3) := by decide +kernel
theorem ddH_idleUnits_41 : decode cH_idleUnits 41 = .ok (.iconst 2, 1) := by decide +kernel
theorem ddH_idleUnits_42 : decode cH_idleUnits 42 = .ok (.iaload, 1) := by decide +kernel
theorem ddH_idleUnits_43 : decode cH_idleUnits 43 = .ok (.aload_n 0, 1) := by decide +kernel
theorem ddH_idleUnits_44 : decode cH_idleUnits 44 = .ok (.iload_n 2, 1) := by decide +kernel
theorem ddH_idleUnits_45 : decode cH_idleUnits 45 = .ok (.invokevirtual 102, 3) := by decide +kernel
theorem ddH_idleUnits_48 : decode cH_idleUnits 48 = .ok (.aload_n 0, 1) := by decide +kernel
theorem ddH_idleUnits_49 : decode cH_idleUnits 49 = .ok (.getfield 46, 3) := by decide +kernel
theorem ddH_idleUnits_52 : decode cH_idleUnits 52 = .ok (.getfield 117, 3) := by decide +kernel
theorem ddH_idleUnits_55 : decode cH_idleUnits 55 = .ok (.aload_n 0, 1) := by decide +kernel
theorem ddH_idleUnits_56 : decode cH_idleUnits 56 = .ok (.getfield 9, 3) := by decide +kernel
theorem ddH_idleUnits_59 : decode cH_idleUnits 59 = .ok (.iload_n 2, 1) := by decide +kernel
theorem ddH_idleUnits_60 : decode cH_idleUnits 60 = .ok (.iaload, 1) := by decide +kernel
theorem ddH_idleUnits_61 : decode cH_idleUnits 61 = .ok (.iaload, 1) := by decide +kernel
theorem ddH_idleUnits_62 : decode cH_idleUnits 62 = .ok (.imul, 1) := by decide +kernel
theorem ddH_idleUnits_63 : decode cH_idleUnits 63 = .ok (.isub, 1) := by decide +kernel
theorem ddH_idleUnits_64 : decode cH_idleUnits 64 = .ok (.iadd, 1) := by decide +kernel
theorem ddH_idleUnits_65 : decode cH_idleUnits 65 = .ok (.istore_n 1, 1) := by decide +kernel
theorem ddH_idleUnits_66 : decode cH_idleUnits 66 = .ok (.iinc 2 1, 3) := by decide +kernel
theorem ddH_idleUnits_69 : decode cH_idleUnits 69 = .ok (.goto (-65), 3) := by decide +kernel
theorem ddH_idleUnits_72 : decode cH_idleUnits 72 = .ok (.iload_n 1, 1) := by decide +kernel
theorem ddH_idleUnits_73 : decode cH_idleUnits 73 = .ok (.ireturn, 1) := by decide +kernel
set_option maxHeartbeats 2000000 in
theorem zBH_idleUnits_66 {G : GXM} {X : CxM} (hG : GokM G) (C : CoM G X cH_idleUnits "HomeFreed$Heap") (N : mLM X = 3) {d : Nat} (hD : dpM X = d) (hd : 1 ≤ d) {v0 : Nat} {K : Nat → Int32 → Int32 → Mem → Option ((Int32 × Mem))} {q : (Int32 × Mem)} (hK : ∀ (v1 : Int32) (v2 : Int32) (M : Mem), K v0 v1 v2 M = some q → ZM G X 4 [(0, .ref v0), (1, .int v1), (2, .int v2)] [] M 0 0) (hr : ∀ r : Int32 × Mem, q =  r → EnM G X (some .int) (some (.int r.1)) r.2 0 0) {v1 : Int32} {v2 : Int32} {M : Mem} (h : BH_idleUnits_66 K v0 v1 v2 M = some q) : ZM G X 66 [(0, .ref v0), (1, .int v1), (2, .int v2)] [] M 0 0 := by
  unfold BH_idleUnits_66 at h
  refine zz_iinc (v := v2 + 1) (L1 := [(2, .int (v2 + 1)), (0, .ref v0), (1, .int v1)]) C 2 ddH_idleUnits_66 rfl rfl N (by decide) rfl ?_
  refine zz_goto (tgt := 4) C ddH_idleUnits_69 rfl ?_
  refine zz_loc (L1 := [(0, .ref v0), (1, .int v1), (2, .int (v2 + 1))]) [1, 2, 0] rfl ?_
  exact hK _ _ _ h
set_option maxHeartbeats 2000000 in
theorem zBH_idleUnits_4 {G : GXM} {X : CxM} (hG : GokM G) (C : CoM G X cH_idleUnits "HomeFreed$Heap") (N : mLM X = 3) {d : Nat} (hD : dpM X = d) (hd : 1 ≤ d) {v0 : Nat} {K : Nat → Int32 → Int32 → Mem → Option ((Int32 × Mem))} {q : (Int32 × Mem)} (hK : ∀ (v1 : Int32) (v2 : Int32) (M : Mem), K v0 v1 v2 M = some q → ZM G X 4 [(0, .ref v0), (1, .int v1), (2, .int v2)] [] M 0 0) (hr : ∀ r : Int32 × Mem, q =  r → EnM G X (some .int) (some (.int r.1)) r.2 0 0) {v1 : Int32} {v2 : Int32} {M : Mem} (h : BH_idleUnits_4 K v0 v1 v2 M = some q) : ZM G X 4 [(0, .ref v0), (1, .int v1), (2, .int v2)] [] M 0 0 := by
  unfold BH_idleUnits_4 at h
  refine zz_iload_n C 2 ddH_idleUnits_4 rfl rfl ?_
  refine zz_aload_n C 0 ddH_idleUnits_5 rfl rfl ?_
  obtain ⟨h1, h⟩ := gdN h
  obtain ⟨h2, h⟩ := gdN h
  refine zz_getr C ddH_idleUnits_6 fl_H_46 rfl h1 (of_decide_eq_true h2) ?_
  obtain ⟨h3, h⟩ := gdN h
  obtain ⟨h4, h⟩ := gdN h
  refine zz_getr C ddH_idleUnits_9 fl_H_76 rfl h3 (of_decide_eq_true h4) ?_
  refine zz_iconst (v := 1) C ddH_idleUnits_12 (by decide) ?_
  obtain ⟨h5, h⟩ := gdN h
  refine zz_iaload C ddH_idleUnits_13 h5 ?_
  refine zz_icmp_ge (tgt := 72) C ddH_idleUnits_14 rfl (fun hc => ?_) (fun hc => ?_)
  · replace h := iteT h hc
    refine zz_iload_n C 1 ddH_idleUnits_72 rfl rfl ?_
    exact zz_iret C (hr _ (Option.some.inj h).symm) ddH_idleUnits_73
  · replace h := iteF h hc
    refine zz_aload_n C 0 ddH_idleUnits_17 rfl rfl ?_
    refine zz_getr C ddH_idleUnits_18 fl_H_46 rfl h1 (of_decide_eq_true h2) ?_
    refine zz_aload_n C 0 ddH_idleUnits_21 rfl rfl ?_
    obtain ⟨h6, h⟩ := gdN h
    refine zz_getr C ddH_idleUnits_22 fl_H_9 rfl h1 (of_decide_eq_true h6) ?_
    refine zz_iload_n C 2 ddH_idleUnits_25 rfl rfl ?_
    obtain ⟨h7, h⟩ := gdN h
    refine zz_iaload C ddH_idleUnits_26 h7 ?_
    obtain ⟨q8, hq8, h⟩ := bindN h
    refine zz_callV0 (As := [.int (giM M (grM M v0 1) (Int32.toNatClampNeg v2))]) C ddH_idleUnits_27 wd_1058 my_U_isKind mv_U_isKind ⟨_, rfl, rfl⟩ (xU_isKind hG (d - 1) (by omega) hq8) (by omega) h3 rfl rfl (Nat.le_of_ble_eq_true rfl) ?_
    refine zz_if_eq (tgt := 66) C ddH_idleUnits_30 rfl (fun hc => ?_) (fun hc => ?_)
    · replace h := iteT h hc
      exact zBH_idleUnits_66 hG C N hD hd hK hr h
    · replace h := iteF h hc
      refine zz_iload_n C 1 ddH_idleUnits_33 rfl rfl ?_
      refine zz_aload_n C 0 ddH_idleUnits_34 rfl rfl ?_
      obtain ⟨h9, h⟩ := gdN h
      obtain ⟨h10, h⟩ := gdN h
      refine zz_getr C ddH_idleUnits_35 fl_H_46 rfl h9 (of_decide_eq_true h10) ?_
      obtain ⟨h11, h⟩ := gdN h
      obtain ⟨h12, h⟩ := gdN h
      refine zz_getr C ddH_idleUnits_38 fl_H_76 rfl h11 (of_decide_eq_true h12) ?_
      refine zz_iconst (v := 2) C ddH_idleUnits_41 (by decide) ?_
      obtain ⟨h13, h⟩ := gdN h
      refine zz_iaload C ddH_idleUnits_42 h13 ?_
      refine zz_aload_n C 0 ddH_idleUnits_43 rfl rfl ?_
      refine zz_iload_n C 2 ddH_idleUnits_44 rfl rfl ?_
      obtain ⟨q14, hq14, h⟩ := bindN h
      refine zz_callV0 (As := [.int v2]) C ddH_idleUnits_45 wd_670 my_H_usedOf mv_H_usedOf ⟨_, rfl, rfl⟩ (xH_usedOf hG (d - 1) (by omega) hq14) (by omega) h9 rfl rfl (Nat.le_of_ble_eq_true rfl) ?_
      refine zz_aload_n C 0 ddH_idleUnits_48 rfl rfl ?_
      obtain ⟨h15, h⟩ := gdN h
      obtain ⟨h16, h⟩ := gdN h
      refine zz_getr C ddH_idleUnits_49 fl_H_46 rfl h15 (of_decide_eq_true h16) ?_
      obtain ⟨h17, h⟩ := gdN h
      obtain ⟨h18, h⟩ := gdN h
      refine zz_getr C ddH_idleUnits_52 fl_H_117 rfl h17 (of_decide_eq_true h18) ?_
      refine zz_aload_n C 0 ddH_idleUnits_55 rfl rfl ?_
      obtain ⟨h19, h⟩ := gdN h
      refine zz_getr C ddH_idleUnits_56 fl_H_9 rfl h15 (of_decide_eq_true h19) ?_
      refine zz_iload_n C 2 ddH_idleUnits_59 rfl rfl ?_
      obtain ⟨h20, h⟩ := gdN h
      refine zz_iaload C ddH_idleUnits_60 h20 ?_
      obtain ⟨h21, h⟩ := gdN h
      refine zz_iaload C ddH_idleUnits_61 h21 ?_
      refine zz_imul C ddH_idleUnits_62 ?_
      refine zz_isub C ddH_idleUnits_63 ?_
      refine zz_iadd C ddH_idleUnits_64 ?_
      refine zz_istore_n (L1 := [(1, .int (v1 + ((giM q8.2 (grM q8.2 (grM q8.2 v0 0) 0) (Int32.toNatClampNeg 2)) - (q14.1 * (giM q14.2 (grM q14.2 (grM q14.2 v0 0) 1) (Int32.toNatClampNeg (giM q14.2 (grM q14.2 v0 1) (Int32.toNatClampNeg v2)))))))), (0, .ref v0), (2, .int v2)]) C ddH_idleUnits_65 rfl N (by decide) rfl ?_
      refine zz_loc (L1 := [(0, .ref v0), (1, .int (v1 + ((giM q8.2 (grM q8.2 (grM q8.2 v0 0) 0) (Int32.toNatClampNeg 2)) - (q14.1 * (giM q14.2 (grM q14.2 (grM q14.2 v0 0) 1) (Int32.toNatClampNeg (giM q14.2 (grM q14.2 v0 1) (Int32.toNatClampNeg v2)))))))), (2, .int v2)]) [1, 0, 2] rfl ?_
      exact zBH_idleUnits_66 hG C N hD hd hK hr h
set_option maxHeartbeats 2000000 in
theorem zLH_idleUnits_4 {G : GXM} {X : CxM} (hG : GokM G) (C : CoM G X cH_idleUnits "HomeFreed$Heap") (N : mLM X = 3) {d : Nat} (hD : dpM X = d) (hd : 1 ≤ d) {v0 : Nat} {q : (Int32 × Mem)} : ∀ (f : Nat) (v1 : Int32) (v2 : Int32) (M : Mem), LH_idleUnits_4 f v0 v1 v2 M = some q → (hr : ∀ r : Int32 × Mem, q =  r → EnM G X (some .int) (some (.int r.1)) r.2 0 0) → ZM G X 4 [(0, .ref v0), (1, .int v1), (2, .int v2)] [] M 0 0 := by
  intro f
  induction f with
  | zero => intro v1 v2 M h; cases h
  | succ f ih =>
    intro v1 v2 M h hr
    exact zBH_idleUnits_4 hG C N hD hd (K := LH_idleUnits_4 f) (q := q) (fun v1 v2 M h => ih v1 v2 M h hr) hr h
set_option maxHeartbeats 2000000 in
theorem xH_idleUnits {G : GXM} {l : Launch} (hG : GokM G) (d : Nat) (hd : 1 ≤ d) {v0 : Nat} {M : Mem} {q : Int32 × Mem} (h : fH_idleUnits v0 M = some q) : ExM G l d 0 0 yH_idleUnits cH_idleUnits 3 (some .int) [.ref v0] M (some (.int q.1)) q.2 := by
  refine ex_of hG (by decide) (Nat.le_of_ble_eq_true rfl) ?_
  intro X hl C E N hD hn
  show ZM G X 0 [(2, .int v2), (1, .int v1), (0, .ref v0)] [] M 0 0
  unfold fH_idleUnits at h
  refine zz_iconst (v := 0) C ddH_idleUnits_0 (by decide) ?_
  refine zz_istore_n (L1 := [(1, .int 0), (0, .ref v0)]) C ddH_idleUnits_1 rfl N (by decide) rfl ?_
  refine zz_iconst (v := 0) C ddH_idleUnits_2 (by decide) ?_
  refine zz_istore_n (L1 := [(2, .int 0), (1, .int 0), (0, .ref v0)]) C ddH_idleUnits_3 rfl N (by decide) rfl ?_
  refine zz_loc (L1 := [(0, .ref v0), (1, .int 0), (2, .int 0)]) [2, 1, 0] rfl ?_
  obtain ⟨q1, hq1, h⟩ := bindN h
  refine zLH_idleUnits_4 hG C N hD hd 1000000 _ _ _ hq1 ?_
  · intro r2 eq1; subst eq1
    obtain rfl := Option.some.inj h
    exact E
theorem ddH_foreignInAll_0 : decode cH_foreignInAll 0 = .ok (.iconst 0, 1) := by decide +kernel
theorem ddH_foreignInAll_1 : decode cH_foreignInAll 1 = .ok (.istore_n 1, 1) := by decide +kernel
theorem ddH_foreignInAll_2 : decode cH_foreignInAll 2 = .ok (.iconst 0, 1) := by decide +kernel
theorem ddH_foreignInAll_3 : decode cH_foreignInAll 3 = .ok (.istore_n 2, 1) := by decide +kernel
theorem ddH_foreignInAll_4 : decode cH_foreignInAll 4 = .ok (.iload_n 2, 1) := by decide +kernel
theorem ddH_foreignInAll_5 : decode cH_foreignInAll 5 = .ok (.aload_n 0, 1) := by decide +kernel
theorem ddH_foreignInAll_6 : decode cH_foreignInAll 6 = .ok (.getfield 46, 3) := by decide +kernel
theorem ddH_foreignInAll_9 : decode cH_foreignInAll 9 = .ok (.getfield 76, 3) := by decide +kernel
theorem ddH_foreignInAll_12 : decode cH_foreignInAll 12 = .ok (.iconst 1, 1) := by decide +kernel
theorem ddH_foreignInAll_13 : decode cH_foreignInAll 13 = .ok (.iaload, 1) := by decide +kernel
theorem ddH_foreignInAll_14 : decode cH_foreignInAll 14 = .ok (.if_icmp .ge 18, 3) := by decide +kernel
theorem ddH_foreignInAll_17 : decode cH_foreignInAll 17 = .ok (.iload_n 1, 1) := by decide +kernel
theorem ddH_foreignInAll_18 : decode cH_foreignInAll 18 = .ok (.aload_n 0, 1) := by decide +kernel
theorem ddH_foreignInAll_19 : decode cH_foreignInAll 19 = .ok (.iload_n 2, 1) := by decide +kernel
theorem ddH_foreignInAll_20 : decode cH_foreignInAll 20 = .ok (.iconst 2, 1) := by decide +kernel
theorem ddH_foreignInAll_21 : decode cH_foreignInAll 21 = .ok (.invokevirtual 120, 3) := by decide +kernel
theorem ddH_foreignInAll_24 : decode cH_foreignInAll 24 = .ok (.iadd, 1) := by decide +kernel
theorem ddH_foreignInAll_25 : decode cH_foreignInAll 25 = .ok (.istore_n 1, 1) := by decide +kernel
theorem ddH_foreignInAll_26 : decode cH_foreignInAll 26 = .ok (.iinc 2 1, 3) := by decide +kernel
theorem ddH_foreignInAll_29 : decode cH_foreignInAll 29 = .ok (.goto (-25), 3) := by decide +kernel
theorem ddH_foreignInAll_32 : decode cH_foreignInAll 32 = .ok (.iload_n 1, 1) := by decide +kernel
theorem ddH_foreignInAll_33 : decode cH_foreignInAll 33 = .ok (.ireturn, 1) := by decide +kernel
set_option maxHeartbeats 2000000 in
theorem zBH_foreignInAll_4 {G : GXM} {X : CxM} (hG : GokM G) (C : CoM G X cH_foreignInAll "HomeFreed$Heap") (N : mLM X = 3) {d : Nat} (hD : dpM X = d) (hd : 1 ≤ d) {v0 : Nat} {K : Nat → Int32 → Int32 → Mem → Option ((Int32 × Mem))} {q : (Int32 × Mem)} (hK : ∀ (v1 : Int32) (v2 : Int32) (M : Mem), K v0 v1 v2 M = some q → ZM G X 4 [(0, .ref v0), (1, .int v1), (2, .int v2)] [] M 0 0) (hr : ∀ r : Int32 × Mem, q =  r → EnM G X (some .int) (some (.int r.1)) r.2 0 0) {v1 : Int32} {v2 : Int32} {M : Mem} (h : BH_foreignInAll_4 K v0 v1 v2 M = some q) : ZM G X 4 [(0, .ref v0), (1, .int v1), (2, .int v2)] [] M 0 0 := by
  unfold BH_foreignInAll_4 at h
  refine zz_iload_n C 2 ddH_foreignInAll_4 rfl rfl ?_
  refine zz_aload_n C 0 ddH_foreignInAll_5 rfl rfl ?_
  obtain ⟨h1, h⟩ := gdN h
  obtain ⟨h2, h⟩ := gdN h
  refine zz_getr C ddH_foreignInAll_6 fl_H_46 rfl h1 (of_decide_eq_true h2) ?_
  obtain ⟨h3, h⟩ := gdN h
  obtain ⟨h4, h⟩ := gdN h
  refine zz_getr C ddH_foreignInAll_9 fl_H_76 rfl h3 (of_decide_eq_true h4) ?_
  refine zz_iconst (v := 1) C ddH_foreignInAll_12 (by decide) ?_
  obtain ⟨h5, h⟩ := gdN h
  refine zz_iaload C ddH_foreignInAll_13 h5 ?_
  refine zz_icmp_ge (tgt := 32) C ddH_foreignInAll_14 rfl (fun hc => ?_) (fun hc => ?_)
  · replace h := iteT h hc
    refine zz_iload_n C 1 ddH_foreignInAll_32 rfl rfl ?_
    exact zz_iret C (hr _ (Option.some.inj h).symm) ddH_foreignInAll_33
  · replace h := iteF h hc
    refine zz_iload_n C 1 ddH_foreignInAll_17 rfl rfl ?_
    refine zz_aload_n C 0 ddH_foreignInAll_18 rfl rfl ?_
    refine zz_iload_n C 2 ddH_foreignInAll_19 rfl rfl ?_
    refine zz_iconst (v := 2) C ddH_foreignInAll_20 (by decide) ?_
    obtain ⟨q6, hq6, h⟩ := bindN h
    refine zz_callV0 (As := [.int v2, .int 2]) C ddH_foreignInAll_21 wd_705 my_H_lengthOf mv_H_lengthOf ⟨_, rfl, rfl⟩ (xH_lengthOf hG (d - 1) (by omega) hq6) (by omega) h1 rfl rfl (Nat.le_of_ble_eq_true rfl) ?_
    refine zz_iadd C ddH_foreignInAll_24 ?_
    refine zz_istore_n (L1 := [(1, .int (v1 + q6.1)), (0, .ref v0), (2, .int v2)]) C ddH_foreignInAll_25 rfl N (by decide) rfl ?_
    refine zz_iinc (v := v2 + 1) (L1 := [(2, .int (v2 + 1)), (1, .int (v1 + q6.1)), (0, .ref v0)]) C 2 ddH_foreignInAll_26 rfl rfl N (by decide) rfl ?_
    refine zz_goto (tgt := 4) C ddH_foreignInAll_29 rfl ?_
    refine zz_loc (L1 := [(0, .ref v0), (1, .int (v1 + q6.1)), (2, .int (v2 + 1))]) [2, 1, 0] rfl ?_
    exact hK _ _ _ h
set_option maxHeartbeats 2000000 in
theorem zLH_foreignInAll_4 {G : GXM} {X : CxM} (hG : GokM G) (C : CoM G X cH_foreignInAll "HomeFreed$Heap") (N : mLM X = 3) {d : Nat} (hD : dpM X = d) (hd : 1 ≤ d) {v0 : Nat} {q : (Int32 × Mem)} : ∀ (f : Nat) (v1 : Int32) (v2 : Int32) (M : Mem), LH_foreignInAll_4 f v0 v1 v2 M = some q → (hr : ∀ r : Int32 × Mem, q =  r → EnM G X (some .int) (some (.int r.1)) r.2 0 0) → ZM G X 4 [(0, .ref v0), (1, .int v1), (2, .int v2)] [] M 0 0 := by
  intro f
  induction f with
  | zero => intro v1 v2 M h; cases h
  | succ f ih =>
    intro v1 v2 M h hr
    exact zBH_foreignInAll_4 hG C N hD hd (K := LH_foreignInAll_4 f) (q := q) (fun v1 v2 M h => ih v1 v2 M h hr) hr h
set_option maxHeartbeats 2000000 in
theorem xH_foreignInAll {G : GXM} {l : Launch} (hG : GokM G) (d : Nat) (hd : 1 ≤ d) {v0 : Nat} {M : Mem} {q : Int32 × Mem} (h : fH_foreignInAll v0 M = some q) : ExM G l d 0 0 yH_foreignInAll cH_foreignInAll 3 (some .int) [.ref v0] M (some (.int q.1)) q.2 := by
  refine ex_of hG (by decide) (Nat.le_of_ble_eq_true rfl) ?_
  intro X hl C E N hD hn
  show ZM G X 0 [(2, .int v2), (1, .int v1), (0, .ref v0)] [] M 0 0
  unfold fH_foreignInAll at h
  refine zz_iconst (v := 0) C ddH_foreignInAll_0 (by decide) ?_
  refine zz_istore_n (L1 := [(1, .int 0), (0, .ref v0)]) C ddH_foreignInAll_1 rfl N (by decide) rfl ?_
  refine zz_iconst (v := 0) C ddH_foreignInAll_2 (by decide) ?_
  refine zz_istore_n (L1 := [(2, .int 0), (1, .int 0), (0, .ref v0)]) C ddH_foreignInAll_3 rfl N (by decide) rfl ?_
  refine zz_loc (L1 := [(0, .ref v0), (1, .int 0), (2, .int 0)]) [2, 1, 0] rfl ?_
  obtain ⟨q1, hq1, h⟩ := bindN h
  refine zLH_foreignInAll_4 hG C N hD hd 1000000 _ _ _ hq1 ?_
  · intro r2 eq1; subst eq1
    obtain rfl := Option.some.inj h
    exact E
theorem ddH_timesIn_0 : decode cH_timesIn 0 = .ok (.iconst 0, 1) := by decide +kernel
theorem ddH_timesIn_1 : decode cH_timesIn 1 = .ok (.istore_n 3, 1) := by decide +kernel
theorem ddH_timesIn_2 : decode cH_timesIn 2 = .ok (.aload_n 0, 1) := by decide +kernel
theorem ddH_timesIn_3 : decode cH_timesIn 3 = .ok (.getfield 30, 3) := by decide +kernel
theorem ddH_timesIn_6 : decode cH_timesIn 6 = .ok (.getfield 132, 3) := by decide +kernel
theorem ddH_timesIn_9 : decode cH_timesIn 9 = .ok (.iload_n 1, 1) := by decide +kernel
theorem ddH_timesIn_10 : decode cH_timesIn 10 = .ok (.iaload, 1) := by decide +kernel
theorem ddH_timesIn_11 : decode cH_timesIn 11 = .ok (.istore 4, 2) := by decide +kernel
theorem ddH_timesIn_13 : decode cH_timesIn 13 = .ok (.iconst 0, 1) := by decide +kernel
theorem ddH_timesIn_14 : decode cH_timesIn 14 = .ok (.istore 5, 2) := by decide +kernel
theorem ddH_timesIn_16 : decode cH_timesIn 16 = .ok (.iload 5, 2) := by decide +kernel
theorem ddH_timesIn_18 : decode cH_timesIn 18 = .ok (.bipush 40, 2) := by decide +kernel
theorem ddH_timesIn_20 : decode cH_timesIn 20 = .ok (.if_icmp .ge 41, 3) := by decide +kernel
theorem ddH_timesIn_23 : decode cH_timesIn 23 = .ok (.iload 4, 2) := by decide +kernel
theorem ddH_timesIn_25 : decode cH_timesIn 25 = .ok (.iconst (-1), 1) := by decide +kernel
theorem ddH_timesIn_26 : decode cH_timesIn 26 = .ok (.if_icmp .eq 35, 3) := by decide +kernel
theorem ddH_timesIn_29 : decode cH_timesIn 29 = .ok (.iload_n 3, 1) := by decide +kernel
theorem ddH_timesIn_30 : decode cH_timesIn 30 = .ok (.iload 4, 2) := by decide +kernel
theorem ddH_timesIn_32 : decode cH_timesIn 32 = .ok (.iload_n 2, 1) := by decide +kernel
theorem ddH_timesIn_33 : decode cH_timesIn 33 = .ok (.if_icmp .ne 7, 3) := by decide +kernel
theorem ddH_timesIn_36 : decode cH_timesIn 36 = .ok (.iconst 1, 1) := by decide +kernel
theorem ddH_timesIn_37 : decode cH_timesIn 37 = .ok (.goto 4, 3) := by decide +kernel
theorem ddH_timesIn_40 : decode cH_timesIn 40 = .ok (.iconst 0, 1) := by decide +kernel
theorem ddH_timesIn_41 : decode cH_timesIn 41 = .ok (.iadd, 1) := by decide +kernel
theorem ddH_timesIn_42 : decode cH_timesIn 42 = .ok (.istore_n 3, 1) := by decide +kernel
theorem ddH_timesIn_43 : decode cH_timesIn 43 = .ok (.aload_n 0, 1) := by decide +kernel
theorem ddH_timesIn_44 : decode cH_timesIn 44 = .ok (.getfield 30, 3) := by decide +kernel
theorem ddH_timesIn_47 : decode cH_timesIn 47 = .ok (.getfield 135, 3) := by decide +kernel
theorem ddH_timesIn_50 : decode cH_timesIn 50 = .ok (.iload 4, 2) := by decide +kernel
theorem ddH_timesIn_52 : decode cH_timesIn 52 = .ok (.iaload, 1) := by decide +kernel
theorem ddH_timesIn_53 : decode cH_timesIn 53 = .ok (.istore 4, 2) := by decide +kernel
theorem ddH_timesIn_55 : decode cH_timesIn 55 = .ok (.iinc 5 1, 3) := by decide +kernel
theorem ddH_timesIn_58 : decode cH_timesIn 58 = .ok (.goto (-42), 3) := by decide +kernel
theorem ddH_timesIn_61 : decode cH_timesIn 61 = .ok (.iload_n 3, 1) := by decide +kernel
theorem ddH_timesIn_62 : decode cH_timesIn 62 = .ok (.ireturn, 1) := by decide +kernel
set_option maxHeartbeats 2000000 in
theorem zBH_timesIn_61 {G : GXM} {X : CxM} (hG : GokM G) (C : CoM G X cH_timesIn "HomeFreed$Heap") (N : mLM X = 6) {d : Nat} (hD : dpM X = d) (hd : 0 ≤ d)  {q : Int32 × Mem} (E : EnM G X (some .int) (some (.int q.1)) q.2 0 0) {v3 : Int32} {M : Mem} (h : BH_timesIn_61 v3 M = some q) : ZM G X 61 [(3, .int v3)] [] M 0 0 := by
  unfold BH_timesIn_61 at h
  refine zz_iload_n C 0 ddH_timesIn_61 rfl rfl ?_
  obtain rfl := Option.some.inj h
  exact zz_iret C E ddH_timesIn_62
set_option maxHeartbeats 2000000 in
theorem zBH_timesIn_41 {G : GXM} {X : CxM} (hG : GokM G) (C : CoM G X cH_timesIn "HomeFreed$Heap") (N : mLM X = 6) {d : Nat} (hD : dpM X = d) (hd : 0 ≤ d) {v0 : Nat} {v2 : Int32} {K : Nat → Int32 → Int32 → Int32 → Int32 → Mem → Option ((Int32 × Mem))} {q : (Int32 × Mem)} (hK : ∀ (v3 : Int32) (v4 : Int32) (v5 : Int32) (M : Mem), K v0 v2 v3 v4 v5 M = some q → ZM G X 16 [(0, .ref v0), (2, .int v2), (3, .int v3), (4, .int v4), (5, .int v5)] [] M 0 0) (hx0 : ∀ y : Int32 × Mem, q = y → ZM G X 61 [(3, .int y.1)] [] y.2 0 0) {v4 : Int32} {v5 : Int32} {w0 : Int32} {w1 : Int32} {M : Mem} (h : BH_timesIn_41 K v0 v2 v4 v5 w0 w1 M = some q) : ZM G X 41 [(0, .ref v0), (2, .int v2), (4, .int v4), (5, .int v5)] [.int w1, .int w0] M 0 0 := by
  unfold BH_timesIn_41 at h
  refine zz_iadd C ddH_timesIn_41 ?_
  refine zz_istore_n (L1 := [(3, .int (w0 + w1)), (0, .ref v0), (2, .int v2), (4, .int v4), (5, .int v5)]) C ddH_timesIn_42 rfl N (by decide) rfl ?_
  refine zz_aload_n C 1 ddH_timesIn_43 rfl rfl ?_
  obtain ⟨h1, h⟩ := gdN h
  obtain ⟨h2, h⟩ := gdN h
  refine zz_getr C ddH_timesIn_44 fl_H_30 rfl h1 (of_decide_eq_true h2) ?_
  obtain ⟨h3, h⟩ := gdN h
  obtain ⟨h4, h⟩ := gdN h
  refine zz_getr C ddH_timesIn_47 fl_H_135 rfl h3 (of_decide_eq_true h4) ?_
  refine zz_iload C 3 ddH_timesIn_50 rfl ?_
  obtain ⟨h5, h⟩ := gdN h
  refine zz_iaload C ddH_timesIn_52 h5 ?_
  refine zz_istore (L1 := [(4, .int (giM M (grM M (grM M v0 5) 2) (Int32.toNatClampNeg v4))), (3, .int (w0 + w1)), (0, .ref v0), (2, .int v2), (5, .int v5)]) C ddH_timesIn_53 N (by decide) rfl ?_
  refine zz_iinc (v := v5 + 1) (L1 := [(5, .int (v5 + 1)), (4, .int (giM M (grM M (grM M v0 5) 2) (Int32.toNatClampNeg v4))), (3, .int (w0 + w1)), (0, .ref v0), (2, .int v2)]) C 4 ddH_timesIn_55 rfl rfl N (by decide) rfl ?_
  refine zz_goto (tgt := 16) C ddH_timesIn_58 rfl ?_
  refine zz_loc (L1 := [(0, .ref v0), (2, .int v2), (3, .int (w0 + w1)), (4, .int (giM M (grM M (grM M v0 5) 2) (Int32.toNatClampNeg v4))), (5, .int (v5 + 1))]) [3, 4, 2, 1, 0] rfl ?_
  exact hK _ _ _ _ h
set_option maxHeartbeats 2000000 in
theorem zBH_timesIn_16 {G : GXM} {X : CxM} (hG : GokM G) (C : CoM G X cH_timesIn "HomeFreed$Heap") (N : mLM X = 6) {d : Nat} (hD : dpM X = d) (hd : 0 ≤ d) {v0 : Nat} {v2 : Int32} {K : Nat → Int32 → Int32 → Int32 → Int32 → Mem → Option ((Int32 × Mem))} {q : (Int32 × Mem)} (hK : ∀ (v3 : Int32) (v4 : Int32) (v5 : Int32) (M : Mem), K v0 v2 v3 v4 v5 M = some q → ZM G X 16 [(0, .ref v0), (2, .int v2), (3, .int v3), (4, .int v4), (5, .int v5)] [] M 0 0) (hx0 : ∀ y : Int32 × Mem, q = y → ZM G X 61 [(3, .int y.1)] [] y.2 0 0) {v3 : Int32} {v4 : Int32} {v5 : Int32} {M : Mem} (h : BH_timesIn_16 K v0 v2 v3 v4 v5 M = some q) : ZM G X 16 [(0, .ref v0), (2, .int v2), (3, .int v3), (4, .int v4), (5, .int v5)] [] M 0 0 := by
  unfold BH_timesIn_16 at h
  refine zz_iload C 4 ddH_timesIn_16 rfl ?_
  refine zz_bipush (v := 40) C ddH_timesIn_18 (by decide) ?_
  refine zz_icmp_ge (tgt := 61) C ddH_timesIn_20 rfl (fun hc => ?_) (fun hc => ?_)
  · replace h := iteT h hc
    refine zz_loc (L1 := [(3, .int v3)]) [2] rfl ?_
    exact hx0 _ (Option.some.inj h).symm
  · replace h := iteF h hc
    refine zz_iload C 3 ddH_timesIn_23 rfl ?_
    refine zz_iconst (v := (-1)) C ddH_timesIn_25 (by decide) ?_
    refine zz_icmp_eq (tgt := 61) C ddH_timesIn_26 rfl (fun hc => ?_) (fun hc => ?_)
    · replace h := iteT h hc
      refine zz_loc (L1 := [(3, .int v3)]) [2] rfl ?_
      exact hx0 _ (Option.some.inj h).symm
    · replace h := iteF h hc
      refine zz_iload_n C 2 ddH_timesIn_29 rfl rfl ?_
      refine zz_iload C 3 ddH_timesIn_30 rfl ?_
      refine zz_iload_n C 1 ddH_timesIn_32 rfl rfl ?_
      refine zz_icmp_ne (tgt := 40) C ddH_timesIn_33 rfl (fun hc => ?_) (fun hc => ?_)
      · replace h := iteF h hc
        refine zz_iconst (v := 0) C ddH_timesIn_40 (by decide) ?_
        refine zz_loc (L1 := [(0, .ref v0), (2, .int v2), (4, .int v4), (5, .int v5)]) [0, 1, 3, 4] rfl ?_
        exact zBH_timesIn_41 hG C N hD hd hK hx0 h
      · replace h := iteT h hc
        refine zz_iconst (v := 1) C ddH_timesIn_36 (by decide) ?_
        refine zz_goto (tgt := 41) C ddH_timesIn_37 rfl ?_
        refine zz_loc (L1 := [(0, .ref v0), (2, .int v2), (4, .int v4), (5, .int v5)]) [0, 1, 3, 4] rfl ?_
        exact zBH_timesIn_41 hG C N hD hd hK hx0 h
set_option maxHeartbeats 2000000 in
theorem zLH_timesIn_16 {G : GXM} {X : CxM} (hG : GokM G) (C : CoM G X cH_timesIn "HomeFreed$Heap") (N : mLM X = 6) {d : Nat} (hD : dpM X = d) (hd : 0 ≤ d) {v0 : Nat} {v2 : Int32} {q : (Int32 × Mem)} : ∀ (f : Nat) (v3 : Int32) (v4 : Int32) (v5 : Int32) (M : Mem), LH_timesIn_16 f v0 v2 v3 v4 v5 M = some q → (hx0 : ∀ y : Int32 × Mem, q = y → ZM G X 61 [(3, .int y.1)] [] y.2 0 0) → ZM G X 16 [(0, .ref v0), (2, .int v2), (3, .int v3), (4, .int v4), (5, .int v5)] [] M 0 0 := by
  intro f
  induction f with
  | zero => intro v3 v4 v5 M h; cases h
  | succ f ih =>
    intro v3 v4 v5 M h hx0
    exact zBH_timesIn_16 hG C N hD hd (K := LH_timesIn_16 f) (q := q) (fun v3 v4 v5 M h => ih v3 v4 v5 M h hx0) hx0 h
set_option maxHeartbeats 2000000 in
theorem xH_timesIn {G : GXM} {l : Launch} (hG : GokM G) (d : Nat) (hd : 0 ≤ d) {v0 : Nat} {v1 : Int32} {v2 : Int32} {M : Mem} {q : Int32 × Mem} (h : fH_timesIn v0 v1 v2 M = some q) : ExM G l d 0 0 yH_timesIn cH_timesIn 6 (some .int) [.ref v0, .int v1, .int v2] M (some (.int q.1)) q.2 := by
  refine ex_of hG (by decide) (Nat.le_of_ble_eq_true rfl) ?_
  intro X hl C E N hD hn
  show ZM G X 0 [(5, .int v5), (4, .int v4), (3, .int v3), (0, .ref v0), (1, .int v1), (2, .int v2)] [] M 0 0
  unfold fH_timesIn at h
  refine zz_iconst (v := 0) C ddH_timesIn_0 (by decide) ?_
  refine zz_istore_n (L1 := [(3, .int 0), (0, .ref v0), (1, .int v1), (2, .int v2)]) C ddH_timesIn_1 rfl N (by decide) rfl ?_
  refine zz_aload_n C 1 ddH_timesIn_2 rfl rfl ?_
  obtain ⟨h1, h⟩ := gdN h
  obtain ⟨h2, h⟩ := gdN h
  refine zz_getr C ddH_timesIn_3 fl_H_30 rfl h1 (of_decide_eq_true h2) ?_
  obtain ⟨h3, h⟩ := gdN h
  obtain ⟨h4, h⟩ := gdN h
  refine zz_getr C ddH_timesIn_6 fl_H_132 rfl h3 (of_decide_eq_true h4) ?_
  refine zz_iload_n C 2 ddH_timesIn_9 rfl rfl ?_
  obtain ⟨h5, h⟩ := gdN h
  refine zz_iaload C ddH_timesIn_10 h5 ?_
  refine zz_istore (L1 := [(4, .int (giM M (grM M (grM M v0 5) 0) (Int32.toNatClampNeg v1))), (3, .int 0), (0, .ref v0), (1, .int v1), (2, .int v2)]) C ddH_timesIn_11 N (by decide) rfl ?_
  refine zz_iconst (v := 0) C ddH_timesIn_13 (by decide) ?_
  refine zz_istore (L1 := [(5, .int 0), (4, .int (giM M (grM M (grM M v0 5) 0) (Int32.toNatClampNeg v1))), (3, .int 0), (0, .ref v0), (1, .int v1), (2, .int v2)]) C ddH_timesIn_14 N (by decide) rfl ?_
  refine zz_loc (L1 := [(0, .ref v0), (2, .int v2), (3, .int 0), (4, .int (giM M (grM M (grM M v0 5) 0) (Int32.toNatClampNeg v1))), (5, .int 0)]) [3, 5, 2, 1, 0] rfl ?_
  obtain ⟨q6, hq6, h⟩ := bindN h
  refine zLH_timesIn_16 hG C N hD hd 1000000 _ _ _ _ hq6 ?_
  · intro y7 eq6; subst eq6
    exact zBH_timesIn_61 hG C N hD hd E h
theorem ddH_placesOf_0 : decode cH_placesOf 0 = .ok (.aload_n 0, 1) := by decide +kernel
theorem ddH_placesOf_1 : decode cH_placesOf 1 = .ok (.getfield 30, 3) := by decide +kernel
theorem ddH_placesOf_4 : decode cH_placesOf 4 = .ok (.getfield 88, 3) := by decide +kernel
theorem ddH_placesOf_7 : decode cH_placesOf 7 = .ok (.iload_n 2, 1) := by decide +kernel
theorem ddH_placesOf_8 : decode cH_placesOf 8 = .ok (.iaload, 1) := by decide +kernel
theorem ddH_placesOf_9 : decode cH_placesOf 9 = .ok (.iconst (-1), 1) := by decide +kernel
theorem ddH_placesOf_10 : decode cH_placesOf 10 = .ok (.if_icmp .ne 7, 3) := by decide +kernel
theorem ddH_placesOf_13 : decode cH_placesOf 13 = .ok (.iconst 1, 1) := by decide +kernel
theorem ddH_placesOf_14 : decode cH_placesOf 14 = .ok (.goto 4, 3) := by decide +kernel
theorem ddH_placesOf_17 : decode cH_placesOf 17 = .ok (.iconst 0, 1) := by decide +kernel
theorem ddH_placesOf_18 : decode cH_placesOf 18 = .ok (.istore_n 3, 1) := by decide +kernel
theorem ddH_placesOf_19 : decode cH_placesOf 19 = .ok (.iconst 0, 1) := by decide +kernel
theorem ddH_placesOf_20 : decode cH_placesOf 20 = .ok (.istore 4, 2) := by decide +kernel
theorem ddH_placesOf_22 : decode cH_placesOf 22 = .ok (.iload 4, 2) := by decide +kernel
theorem ddH_placesOf_24 : decode cH_placesOf 24 = .ok (.iconst 2, 1) := by decide +kernel
theorem ddH_placesOf_25 : decode cH_placesOf 25 = .ok (.if_icmp .gt 24, 3) := by decide +kernel
theorem ddH_placesOf_28 : decode cH_placesOf 28 = .ok (.iload_n 3, 1) := by decide +kernel
theorem ddH_placesOf_29 : decode cH_placesOf 29 = .ok (.aload_n 0, 1) := by decide +kernel
theorem ddH_placesOf_30 : decode cH_placesOf 30 = .ok (.aload_n 0, 1) := by decide +kernel
theorem ddH_placesOf_31 : decode cH_placesOf 31 = .ok (.iload_n 1, 1) := by decide +kernel
theorem ddH_placesOf_32 : decode cH_placesOf 32 = .ok (.iload 4, 2) := by decide +kernel
theorem ddH_placesOf_34 : decode cH_placesOf 34 = .ok (.invokevirtual 126, 3) := by decide +kernel
theorem ddH_placesOf_37 : decode cH_placesOf 37 = .ok (.iload_n 2, 1) := by decide +kernel
theorem ddH_placesOf_38 : decode cH_placesOf 38 = .ok (.invokevirtual 129, 3) := by decide +kernel
theorem ddH_placesOf_41 : decode cH_placesOf 41 = .ok (.iadd, 1) := by decide +kernel
theorem ddH_placesOf_42 : decode cH_placesOf 42 = .ok (.istore_n 3, 1) := by decide +kernel
theorem ddH_placesOf_43 : decode cH_placesOf 43 = .ok (.iinc 4 1, 3) := by decide +kernel
theorem ddH_placesOf_46 : decode cH_placesOf 46 = .ok (.goto (-24), 3) := by decide +kernel
theorem ddH_placesOf_49 : decode cH_placesOf 49 = .ok (.iconst 0, 1) := by decide +kernel
theorem ddH_placesOf_50 : decode cH_placesOf 50 = .ok (.istore 4, 2) := by decide +kernel
theorem ddH_placesOf_52 : decode cH_placesOf 52 = .ok (.iload 4, 2) := by decide +kernel
theorem ddH_placesOf_54 : decode cH_placesOf 54 = .ok (.aload_n 0, 1) := by decide +kernel
theorem ddH_placesOf_55 : decode cH_placesOf 55 = .ok (.getfield 46, 3) := by decide +kernel
theorem ddH_placesOf_58 : decode cH_placesOf 58 = .ok (.getfield 76, 3) := by decide +kernel
theorem ddH_placesOf_61 : decode cH_placesOf 61 = .ok (.iconst 0, 1) := by decide +kernel
theorem ddH_placesOf_62 : decode cH_placesOf 62 = .ok (.iaload, 1) := by decide +kernel
theorem ddH_placesOf_63 : decode cH_placesOf 63 = .ok (.if_icmp .ge 24, 3) := by decide +kernel
theorem ddH_placesOf_66 : decode cH_placesOf 66 = .ok (.iload_n 3, 1) := by decide +kernel
theorem ddH_placesOf_67 : decode cH_placesOf 67 = .ok (.aload_n 0, 1) := by decide +kernel
theorem ddH_placesOf_68 : decode cH_placesOf 68 = .ok (.aload_n 0, 1) := by decide +kernel
theorem ddH_placesOf_69 : decode cH_placesOf 69 = .ok (.iload 4, 2) := by decide +kernel
theorem ddH_placesOf_71 : decode cH_placesOf 71 = .ok (.iload_n 1, 1) := by decide +kernel
theorem ddH_placesOf_72 : decode cH_placesOf 72 = .ok (.invokevirtual 98, 3) := by decide +kernel
theorem ddH_placesOf_75 : decode cH_placesOf 75 = .ok (.iload_n 2, 1) := by decide +kernel
theorem ddH_placesOf_76 : decode cH_placesOf 76 = .ok (.invokevirtual 129, 3) := by decide +kernel
theorem ddH_placesOf_79 : decode cH_placesOf 79 = .ok (.iadd, 1) := by decide +kernel
theorem ddH_placesOf_80 : decode cH_placesOf 80 = .ok (.istore_n 3, 1) := by decide +kernel
theorem ddH_placesOf_81 : decode cH_placesOf 81 = .ok (.iinc 4 1, 3) := by decide +kernel
theorem ddH_placesOf_84 : decode cH_placesOf 84 = .ok (.goto (-32), 3) := by decide +kernel
theorem ddH_placesOf_87 : decode cH_placesOf 87 = .ok (.iload_n 3, 1) := by decide +kernel
theorem ddH_placesOf_88 : decode cH_placesOf 88 = .ok (.ireturn, 1) := by decide +kernel
set_option maxHeartbeats 2000000 in
theorem zBH_placesOf_52 {G : GXM} {X : CxM} (hG : GokM G) (C : CoM G X cH_placesOf "HomeFreed$Heap") (N : mLM X = 5) {d : Nat} (hD : dpM X = d) (hd : 1 ≤ d) {v0 : Nat} {v1 : Int32} {v2 : Int32} {K : Nat → Int32 → Int32 → Int32 → Int32 → Mem → Option ((Int32 × Mem))} {q : (Int32 × Mem)} (hK : ∀ (v3 : Int32) (v4 : Int32) (M : Mem), K v0 v1 v2 v3 v4 M = some q → ZM G X 52 [(0, .ref v0), (1, .int v1), (2, .int v2), (3, .int v3), (4, .int v4)] [] M 0 0) (hr : ∀ r : Int32 × Mem, q =  r → EnM G X (some .int) (some (.int r.1)) r.2 0 0) {v3 : Int32} {v4 : Int32} {M : Mem} (h : BH_placesOf_52 K v0 v1 v2 v3 v4 M = some q) : ZM G X 52 [(0, .ref v0), (1, .int v1), (2, .int v2), (3, .int v3), (4, .int v4)] [] M 0 0 := by
  unfold BH_placesOf_52 at h
  refine zz_iload C 4 ddH_placesOf_52 rfl ?_
  refine zz_aload_n C 0 ddH_placesOf_54 rfl rfl ?_
  obtain ⟨h1, h⟩ := gdN h
  obtain ⟨h2, h⟩ := gdN h
  refine zz_getr C ddH_placesOf_55 fl_H_46 rfl h1 (of_decide_eq_true h2) ?_
  obtain ⟨h3, h⟩ := gdN h
  obtain ⟨h4, h⟩ := gdN h
  refine zz_getr C ddH_placesOf_58 fl_H_76 rfl h3 (of_decide_eq_true h4) ?_
  refine zz_iconst (v := 0) C ddH_placesOf_61 (by decide) ?_
  obtain ⟨h5, h⟩ := gdN h
  refine zz_iaload C ddH_placesOf_62 h5 ?_
  refine zz_icmp_ge (tgt := 87) C ddH_placesOf_63 rfl (fun hc => ?_) (fun hc => ?_)
  · replace h := iteT h hc
    refine zz_iload_n C 3 ddH_placesOf_87 rfl rfl ?_
    exact zz_iret C (hr _ (Option.some.inj h).symm) ddH_placesOf_88
  · replace h := iteF h hc
    refine zz_iload_n C 3 ddH_placesOf_66 rfl rfl ?_
    refine zz_aload_n C 0 ddH_placesOf_67 rfl rfl ?_
    refine zz_aload_n C 0 ddH_placesOf_68 rfl rfl ?_
    refine zz_iload C 4 ddH_placesOf_69 rfl ?_
    refine zz_iload_n C 1 ddH_placesOf_71 rfl rfl ?_
    obtain ⟨q6, hq6, h⟩ := bindN h
    refine zz_callV0 (As := [.int v4, .int v1]) C ddH_placesOf_72 wd_619 my_H_outboxOf mv_H_outboxOf ⟨_, rfl, rfl⟩ (xH_outboxOf hG (d - 1) (by omega) hq6) (by omega) h1 rfl rfl (Nat.le_of_ble_eq_true rfl) ?_
    refine zz_iload_n C 2 ddH_placesOf_75 rfl rfl ?_
    obtain ⟨h8, h⟩ := gdN h
    obtain ⟨q7, hq7, h⟩ := bindN h
    refine zz_callV0 (As := [.int q6.1, .int v2]) C ddH_placesOf_76 wd_1071 my_H_timesIn mv_H_timesIn ⟨_, rfl, rfl⟩ (xH_timesIn hG (d - 1) (by omega) hq7) (by omega) h8 rfl rfl (Nat.le_of_ble_eq_true rfl) ?_
    refine zz_iadd C ddH_placesOf_79 ?_
    refine zz_istore_n (L1 := [(3, .int (v3 + q7.1)), (0, .ref v0), (1, .int v1), (2, .int v2), (4, .int v4)]) C ddH_placesOf_80 rfl N (by decide) rfl ?_
    refine zz_iinc (v := v4 + 1) (L1 := [(4, .int (v4 + 1)), (3, .int (v3 + q7.1)), (0, .ref v0), (1, .int v1), (2, .int v2)]) C 4 ddH_placesOf_81 rfl rfl N (by decide) rfl ?_
    refine zz_goto (tgt := 52) C ddH_placesOf_84 rfl ?_
    refine zz_loc (L1 := [(0, .ref v0), (1, .int v1), (2, .int v2), (3, .int (v3 + q7.1)), (4, .int (v4 + 1))]) [2, 3, 4, 1, 0] rfl ?_
    exact hK _ _ _ h
set_option maxHeartbeats 2000000 in
theorem zLH_placesOf_52 {G : GXM} {X : CxM} (hG : GokM G) (C : CoM G X cH_placesOf "HomeFreed$Heap") (N : mLM X = 5) {d : Nat} (hD : dpM X = d) (hd : 1 ≤ d) {v0 : Nat} {v1 : Int32} {v2 : Int32} {q : (Int32 × Mem)} : ∀ (f : Nat) (v3 : Int32) (v4 : Int32) (M : Mem), LH_placesOf_52 f v0 v1 v2 v3 v4 M = some q → (hr : ∀ r : Int32 × Mem, q =  r → EnM G X (some .int) (some (.int r.1)) r.2 0 0) → ZM G X 52 [(0, .ref v0), (1, .int v1), (2, .int v2), (3, .int v3), (4, .int v4)] [] M 0 0 := by
  intro f
  induction f with
  | zero => intro v3 v4 M h; cases h
  | succ f ih =>
    intro v3 v4 M h hr
    exact zBH_placesOf_52 hG C N hD hd (K := LH_placesOf_52 f) (q := q) (fun v3 v4 M h => ih v3 v4 M h hr) hr h
set_option maxHeartbeats 2000000 in
theorem zBH_placesOf_22 {G : GXM} {X : CxM} (hG : GokM G) (C : CoM G X cH_placesOf "HomeFreed$Heap") (N : mLM X = 5) {d : Nat} (hD : dpM X = d) (hd : 1 ≤ d) {v0 : Nat} {v1 : Int32} {v2 : Int32} {K : Nat → Int32 → Int32 → Int32 → Int32 → Mem → Option ((Int32 × Mem))} {q : (Int32 × Mem)} (hK : ∀ (v3 : Int32) (v4 : Int32) (M : Mem), K v0 v1 v2 v3 v4 M = some q → ZM G X 22 [(0, .ref v0), (1, .int v1), (2, .int v2), (3, .int v3), (4, .int v4)] [] M 0 0) (hx0 : ∀ y : Int32 × Mem, q = y → ZM G X 49 [(0, .ref v0), (1, .int v1), (2, .int v2), (3, .int y.1)] [] y.2 0 0) {v3 : Int32} {v4 : Int32} {M : Mem} (h : BH_placesOf_22 K v0 v1 v2 v3 v4 M = some q) : ZM G X 22 [(0, .ref v0), (1, .int v1), (2, .int v2), (3, .int v3), (4, .int v4)] [] M 0 0 := by
  unfold BH_placesOf_22 at h
  refine zz_iload C 4 ddH_placesOf_22 rfl ?_
  refine zz_iconst (v := 2) C ddH_placesOf_24 (by decide) ?_
  refine zz_icmp_gt (tgt := 49) C ddH_placesOf_25 rfl (fun hc => ?_) (fun hc => ?_)
  · replace h := iteT h hc
    refine zz_loc (L1 := [(0, .ref v0), (1, .int v1), (2, .int v2), (3, .int v3)]) [0, 1, 2, 3] rfl ?_
    exact hx0 _ (Option.some.inj h).symm
  · replace h := iteF h hc
    refine zz_iload_n C 3 ddH_placesOf_28 rfl rfl ?_
    refine zz_aload_n C 0 ddH_placesOf_29 rfl rfl ?_
    refine zz_aload_n C 0 ddH_placesOf_30 rfl rfl ?_
    refine zz_iload_n C 1 ddH_placesOf_31 rfl rfl ?_
    refine zz_iload C 4 ddH_placesOf_32 rfl ?_
    obtain ⟨h2, h⟩ := gdN h
    obtain ⟨q1, hq1, h⟩ := bindN h
    refine zz_callV0 (As := [.int v1, .int v4]) C ddH_placesOf_34 wd_725 my_H_listOf mv_H_listOf ⟨_, rfl, rfl⟩ (xH_listOf hG (d - 1) (by omega) hq1) (by omega) h2 rfl rfl (Nat.le_of_ble_eq_true rfl) ?_
    refine zz_iload_n C 2 ddH_placesOf_37 rfl rfl ?_
    obtain ⟨h4, h⟩ := gdN h
    obtain ⟨q3, hq3, h⟩ := bindN h
    refine zz_callV0 (As := [.int q1.1, .int v2]) C ddH_placesOf_38 wd_1071 my_H_timesIn mv_H_timesIn ⟨_, rfl, rfl⟩ (xH_timesIn hG (d - 1) (by omega) hq3) (by omega) h4 rfl rfl (Nat.le_of_ble_eq_true rfl) ?_
    refine zz_iadd C ddH_placesOf_41 ?_
    refine zz_istore_n (L1 := [(3, .int (v3 + q3.1)), (0, .ref v0), (1, .int v1), (2, .int v2), (4, .int v4)]) C ddH_placesOf_42 rfl N (by decide) rfl ?_
    refine zz_iinc (v := v4 + 1) (L1 := [(4, .int (v4 + 1)), (3, .int (v3 + q3.1)), (0, .ref v0), (1, .int v1), (2, .int v2)]) C 4 ddH_placesOf_43 rfl rfl N (by decide) rfl ?_
    refine zz_goto (tgt := 22) C ddH_placesOf_46 rfl ?_
    refine zz_loc (L1 := [(0, .ref v0), (1, .int v1), (2, .int v2), (3, .int (v3 + q3.1)), (4, .int (v4 + 1))]) [2, 3, 4, 1, 0] rfl ?_
    exact hK _ _ _ h
set_option maxHeartbeats 2000000 in
theorem zLH_placesOf_22 {G : GXM} {X : CxM} (hG : GokM G) (C : CoM G X cH_placesOf "HomeFreed$Heap") (N : mLM X = 5) {d : Nat} (hD : dpM X = d) (hd : 1 ≤ d) {v0 : Nat} {v1 : Int32} {v2 : Int32} {q : (Int32 × Mem)} : ∀ (f : Nat) (v3 : Int32) (v4 : Int32) (M : Mem), LH_placesOf_22 f v0 v1 v2 v3 v4 M = some q → (hx0 : ∀ y : Int32 × Mem, q = y → ZM G X 49 [(0, .ref v0), (1, .int v1), (2, .int v2), (3, .int y.1)] [] y.2 0 0) → ZM G X 22 [(0, .ref v0), (1, .int v1), (2, .int v2), (3, .int v3), (4, .int v4)] [] M 0 0 := by
  intro f
  induction f with
  | zero => intro v3 v4 M h; cases h
  | succ f ih =>
    intro v3 v4 M h hx0
    exact zBH_placesOf_22 hG C N hD hd (K := LH_placesOf_22 f) (q := q) (fun v3 v4 M h => ih v3 v4 M h hx0) hx0 h
set_option maxHeartbeats 2000000 in
theorem zBH_placesOf_18 {G : GXM} {X : CxM} (hG : GokM G) (C : CoM G X cH_placesOf "HomeFreed$Heap") (N : mLM X = 5) {d : Nat} (hD : dpM X = d) (hd : 1 ≤ d)  {q : Int32 × Mem} (E : EnM G X (some .int) (some (.int q.1)) q.2 0 0) {v0 : Nat} {v1 : Int32} {v2 : Int32} {w0 : Int32} {M : Mem} (h : BH_placesOf_18 v0 v1 v2 w0 M = some q) : ZM G X 18 [(0, .ref v0), (1, .int v1), (2, .int v2)] [.int w0] M 0 0 := by
  unfold BH_placesOf_18 at h
  refine zz_istore_n (L1 := [(3, .int w0), (0, .ref v0), (1, .int v1), (2, .int v2)]) C ddH_placesOf_18 rfl N (by decide) rfl ?_
  refine zz_iconst (v := 0) C ddH_placesOf_19 (by decide) ?_
  refine zz_istore (L1 := [(4, .int 0), (3, .int w0), (0, .ref v0), (1, .int v1), (2, .int v2)]) C ddH_placesOf_20 N (by decide) rfl ?_
  refine zz_loc (L1 := [(0, .ref v0), (1, .int v1), (2, .int v2), (3, .int w0), (4, .int 0)]) [2, 3, 4, 1, 0] rfl ?_
  obtain ⟨q1, hq1, h⟩ := bindN h
  refine zLH_placesOf_22 hG C N hD hd 1000000 _ _ _ hq1 ?_
  · intro y2 eq1; subst eq1
    refine zz_iconst (v := 0) C ddH_placesOf_49 (by decide) ?_
    refine zz_istore (L1 := [(4, .int 0), (0, .ref v0), (1, .int v1), (2, .int v2), (3, .int y2.1)]) C ddH_placesOf_50 N (by decide) rfl ?_
    refine zz_loc (L1 := [(0, .ref v0), (1, .int v1), (2, .int v2), (3, .int y2.1), (4, .int 0)]) [1, 2, 3, 4, 0] rfl ?_
    obtain ⟨q3, hq3, h⟩ := bindN h
    refine zLH_placesOf_52 hG C N hD hd 1000000 _ _ _ hq3 ?_
    · intro r4 eq3; subst eq3
      obtain rfl := Option.some.inj h
      exact E
set_option maxHeartbeats 2000000 in
theorem xH_placesOf {G : GXM} {l : Launch} (hG : GokM G) (d : Nat) (hd : 1 ≤ d) {v0 : Nat} {v1 : Int32} {v2 : Int32} {M : Mem} {q : Int32 × Mem} (h : fH_placesOf v0 v1 v2 M = some q) : ExM G l d 0 0 yH_placesOf cH_placesOf 5 (some .int) [.ref v0, .int v1, .int v2] M (some (.int q.1)) q.2 := by
  refine ex_of hG (by decide) (Nat.le_of_ble_eq_true rfl) ?_
  intro X hl C E N hD hn
  show ZM G X 0 [(0, .ref v0), (1, .int v1), (2, .int v2)] [] M 0 0
  unfold fH_placesOf at h
  refine zz_aload_n C 0 ddH_placesOf_0 rfl rfl ?_
  obtain ⟨h1, h⟩ := gdN h
  obtain ⟨h2, h⟩ := gdN h
  refine zz_getr C ddH_placesOf_1 fl_H_30 rfl h1 (of_decide_eq_true h2) ?_
  obtain ⟨h3, h⟩ := gdN h
  obtain ⟨h4, h⟩ := gdN h
  refine zz_getr C ddH_placesOf_4 fl_H_88 rfl h3 (of_decide_eq_true h4) ?_
  refine zz_iload_n C 2 ddH_placesOf_7 rfl rfl ?_
  obtain ⟨h5, h⟩ := gdN h
  refine zz_iaload C ddH_placesOf_8 h5 ?_
  refine zz_iconst (v := (-1)) C ddH_placesOf_9 (by decide) ?_
  refine zz_icmp_ne (tgt := 17) C ddH_placesOf_10 rfl (fun hc => ?_) (fun hc => ?_)
  · replace h := iteF h hc
    refine zz_iconst (v := 0) C ddH_placesOf_17 (by decide) ?_
    exact zBH_placesOf_18 hG C N hD hd E h
  · replace h := iteT h hc
    refine zz_iconst (v := 1) C ddH_placesOf_13 (by decide) ?_
    refine zz_goto (tgt := 18) C ddH_placesOf_14 rfl ?_
    exact zBH_placesOf_18 hG C N hD hd E h
theorem ddH_lostBlocks_0 : decode cH_lostBlocks 0 = .ok (.iconst 0, 1) := by decide +kernel
theorem ddH_lostBlocks_1 : decode cH_lostBlocks 1 = .ok (.istore_n 1, 1) := by decide +kernel
theorem ddH_lostBlocks_2 : decode cH_lostBlocks 2 = .ok (.iconst 0, 1) := by decide +kernel
theorem ddH_lostBlocks_3 : decode cH_lostBlocks 3 = .ok (.istore_n 2, 1) := by decide +kernel
theorem ddH_lostBlocks_4 : decode cH_lostBlocks 4 = .ok (.iload_n 2, 1) := by decide +kernel
theorem ddH_lostBlocks_5 : decode cH_lostBlocks 5 = .ok (.aload_n 0, 1) := by decide +kernel
theorem ddH_lostBlocks_6 : decode cH_lostBlocks 6 = .ok (.getfield 46, 3) := by decide +kernel
theorem ddH_lostBlocks_9 : decode cH_lostBlocks 9 = .ok (.getfield 76, 3) := by decide +kernel
theorem ddH_lostBlocks_12 : decode cH_lostBlocks 12 = .ok (.iconst 1, 1) := by decide +kernel
theorem ddH_lostBlocks_13 : decode cH_lostBlocks 13 = .ok (.iaload, 1) := by decide +kernel
theorem ddH_lostBlocks_14 : decode cH_lostBlocks 14 = .ok (.if_icmp .ge 50, 3) := by decide +kernel
theorem ddH_lostBlocks_17 : decode cH_lostBlocks 17 = .ok (.iconst 0, 1) := by decide +kernel
theorem ddH_lostBlocks_18 : decode cH_lostBlocks 18 = .ok (.istore_n 3, 1) := by decide +kernel
theorem ddH_lostBlocks_19 : decode cH_lostBlocks 19 = .ok (.iload_n 3, 1) := by decide +kernel
theorem ddH_lostBlocks_20 : decode cH_lostBlocks 20 = .ok (.aload_n 0, 1) := by decide +kernel
theorem ddH_lostBlocks_21 : decode cH_lostBlocks 21 = .ok (.getfield 18, 3) := by decide +kernel
theorem ddH_lostBlocks_24 : decode cH_lostBlocks 24 = .ok (.iload_n 2, 1) := by decide +kernel
theorem ddH_lostBlocks_25 : decode cH_lostBlocks 25 = .ok (.iaload, 1) := by decide +kernel
theorem ddH_lostBlocks_26 : decode cH_lostBlocks 26 = .ok (.if_icmp .ge 32, 3) := by decide +kernel
theorem ddH_lostBlocks_29 : decode cH_lostBlocks 29 = .ok (.iload_n 1, 1) := by decide +kernel
theorem ddH_lostBlocks_30 : decode cH_lostBlocks 30 = .ok (.aload_n 0, 1) := by decide +kernel
theorem ddH_lostBlocks_31 : decode cH_lostBlocks 31 = .ok (.iload_n 2, 1) := by decide +kernel
theorem ddH_lostBlocks_32 : decode cH_lostBlocks 32 = .ok (.iload_n 2, 1) := by decide +kernel
theorem ddH_lostBlocks_33 : decode cH_lostBlocks 33 = .ok (.bipush 40, 2) := by decide +kernel
theorem ddH_lostBlocks_35 : decode cH_lostBlocks 35 = .ok (.imul, 1) := by decide +kernel
theorem ddH_lostBlocks_36 : decode cH_lostBlocks 36 = .ok (.iload_n 3, 1) := by decide +kernel
theorem ddH_lostBlocks_37 : decode cH_lostBlocks 37 = .ok (.iadd, 1) := by decide +kernel
theorem ddH_lostBlocks_38 : decode cH_lostBlocks 38 = .ok (.invokevirtual 123, 3) := by decide +kernel
theorem ddH_lostBlocks_41 : decode cH_lostBlocks 41 = .ok (.iconst 1, 1) := by decide +kernel
theorem ddH_lostBlocks_42 : decode cH_lostBlocks 42 = .ok (.if_icmp .ne 7, 3) := by decide +kernel
theorem ddH_lostBlocks_45 : decode cH_lostBlocks 45 = .ok (.iconst 0, 1) := by decide +kernel
theorem ddH_lostBlocks_46 : decode cH_lostBlocks 46 = .ok (.goto 4, 3) := by decide +kernel
theorem ddH_lostBlocks_49 : decode cH_lostBlocks 49 = .ok (.iconst 1, 1) := by decide +kernel
theorem ddH_lostBlocks_50 : decode cH_lostBlocks 50 = .ok (.iadd, 1) := by decide +kernel
theorem ddH_lostBlocks_51 : decode cH_lostBlocks 51 = .ok (.istore_n 1, 1) := by decide +kernel
theorem ddH_lostBlocks_52 : decode cH_lostBlocks 52 = .ok (.iinc 3 1, 3) := by decide +kernel
theorem ddH_lostBlocks_55 : decode cH_lostBlocks 55 = .ok (.goto (-36), 3) := by decide +kernel
theorem ddH_lostBlocks_58 : decode cH_lostBlocks 58 = .ok (.iinc 2 1, 3) := by decide +kernel
theorem ddH_lostBlocks_61 : decode cH_lostBlocks 61 = .ok (.goto (-57), 3) := by decide +kernel
theorem ddH_lostBlocks_64 : decode cH_lostBlocks 64 = .ok (.iload_n 1, 1) := by decide +kernel
theorem ddH_lostBlocks_65 : decode cH_lostBlocks 65 = .ok (.ireturn, 1) := by decide +kernel
set_option maxHeartbeats 2000000 in
theorem zBH_lostBlocks_50 {G : GXM} {X : CxM} (hG : GokM G) (C : CoM G X cH_lostBlocks "HomeFreed$Heap") (N : mLM X = 4) {d : Nat} (hD : dpM X = d) (hd : 2 ≤ d) {v0 : Nat} {v2 : Int32} {K : Nat → Int32 → Int32 → Int32 → Mem → Option ((Int32 × Mem))} {q : (Int32 × Mem)} (hK : ∀ (v1 : Int32) (v3 : Int32) (M : Mem), K v0 v1 v2 v3 M = some q → ZM G X 19 [(0, .ref v0), (1, .int v1), (2, .int v2), (3, .int v3)] [] M 0 0) (hx0 : ∀ y : Int32 × Mem, q = y → ZM G X 58 [(0, .ref v0), (1, .int y.1), (2, .int v2)] [] y.2 0 0) {v3 : Int32} {w0 : Int32} {w1 : Int32} {M : Mem} (h : BH_lostBlocks_50 K v0 v2 v3 w0 w1 M = some q) : ZM G X 50 [(0, .ref v0), (2, .int v2), (3, .int v3)] [.int w1, .int w0] M 0 0 := by
  unfold BH_lostBlocks_50 at h
  refine zz_iadd C ddH_lostBlocks_50 ?_
  refine zz_istore_n (L1 := [(1, .int (w0 + w1)), (0, .ref v0), (2, .int v2), (3, .int v3)]) C ddH_lostBlocks_51 rfl N (by decide) rfl ?_
  refine zz_iinc (v := v3 + 1) (L1 := [(3, .int (v3 + 1)), (1, .int (w0 + w1)), (0, .ref v0), (2, .int v2)]) C 3 ddH_lostBlocks_52 rfl rfl N (by decide) rfl ?_
  refine zz_goto (tgt := 19) C ddH_lostBlocks_55 rfl ?_
  refine zz_loc (L1 := [(0, .ref v0), (1, .int (w0 + w1)), (2, .int v2), (3, .int (v3 + 1))]) [2, 1, 3, 0] rfl ?_
  exact hK _ _ _ h
set_option maxHeartbeats 2000000 in
theorem zBH_lostBlocks_19 {G : GXM} {X : CxM} (hG : GokM G) (C : CoM G X cH_lostBlocks "HomeFreed$Heap") (N : mLM X = 4) {d : Nat} (hD : dpM X = d) (hd : 2 ≤ d) {v0 : Nat} {v2 : Int32} {K : Nat → Int32 → Int32 → Int32 → Mem → Option ((Int32 × Mem))} {q : (Int32 × Mem)} (hK : ∀ (v1 : Int32) (v3 : Int32) (M : Mem), K v0 v1 v2 v3 M = some q → ZM G X 19 [(0, .ref v0), (1, .int v1), (2, .int v2), (3, .int v3)] [] M 0 0) (hx0 : ∀ y : Int32 × Mem, q = y → ZM G X 58 [(0, .ref v0), (1, .int y.1), (2, .int v2)] [] y.2 0 0) {v1 : Int32} {v3 : Int32} {M : Mem} (h : BH_lostBlocks_19 K v0 v1 v2 v3 M = some q) : ZM G X 19 [(0, .ref v0), (1, .int v1), (2, .int v2), (3, .int v3)] [] M 0 0 := by
  unfold BH_lostBlocks_19 at h
  refine zz_iload_n C 3 ddH_lostBlocks_19 rfl rfl ?_
  refine zz_aload_n C 0 ddH_lostBlocks_20 rfl rfl ?_
  obtain ⟨h1, h⟩ := gdN h
  obtain ⟨h2, h⟩ := gdN h
  refine zz_getr C ddH_lostBlocks_21 fl_H_18 rfl h1 (of_decide_eq_true h2) ?_
  refine zz_iload_n C 2 ddH_lostBlocks_24 rfl rfl ?_
  obtain ⟨h3, h⟩ := gdN h
  refine zz_iaload C ddH_lostBlocks_25 h3 ?_
  refine zz_icmp_ge (tgt := 58) C ddH_lostBlocks_26 rfl (fun hc => ?_) (fun hc => ?_)
  · replace h := iteT h hc
    refine zz_loc (L1 := [(0, .ref v0), (1, .int v1), (2, .int v2)]) [0, 1, 2] rfl ?_
    exact hx0 _ (Option.some.inj h).symm
  · replace h := iteF h hc
    refine zz_iload_n C 1 ddH_lostBlocks_29 rfl rfl ?_
    refine zz_aload_n C 0 ddH_lostBlocks_30 rfl rfl ?_
    refine zz_iload_n C 2 ddH_lostBlocks_31 rfl rfl ?_
    refine zz_iload_n C 2 ddH_lostBlocks_32 rfl rfl ?_
    refine zz_bipush (v := 40) C ddH_lostBlocks_33 (by decide) ?_
    refine zz_imul C ddH_lostBlocks_35 ?_
    refine zz_iload_n C 3 ddH_lostBlocks_36 rfl rfl ?_
    refine zz_iadd C ddH_lostBlocks_37 ?_
    obtain ⟨q4, hq4, h⟩ := bindN h
    refine zz_callV0 (As := [.int v2, .int ((v2 * 40) + v3)]) C ddH_lostBlocks_38 wd_1067 my_H_placesOf mv_H_placesOf ⟨_, rfl, rfl⟩ (xH_placesOf hG (d - 1) (by omega) hq4) (by omega) h1 rfl rfl (Nat.le_of_ble_eq_true rfl) ?_
    refine zz_iconst (v := 1) C ddH_lostBlocks_41 (by decide) ?_
    refine zz_icmp_ne (tgt := 49) C ddH_lostBlocks_42 rfl (fun hc => ?_) (fun hc => ?_)
    · replace h := iteF h hc
      refine zz_iconst (v := 1) C ddH_lostBlocks_49 (by decide) ?_
      refine zz_loc (L1 := [(0, .ref v0), (2, .int v2), (3, .int v3)]) [0, 2, 3] rfl ?_
      exact zBH_lostBlocks_50 hG C N hD hd hK hx0 h
    · replace h := iteT h hc
      refine zz_iconst (v := 0) C ddH_lostBlocks_45 (by decide) ?_
      refine zz_goto (tgt := 50) C ddH_lostBlocks_46 rfl ?_
      refine zz_loc (L1 := [(0, .ref v0), (2, .int v2), (3, .int v3)]) [0, 2, 3] rfl ?_
      exact zBH_lostBlocks_50 hG C N hD hd hK hx0 h
set_option maxHeartbeats 2000000 in
theorem zLH_lostBlocks_19 {G : GXM} {X : CxM} (hG : GokM G) (C : CoM G X cH_lostBlocks "HomeFreed$Heap") (N : mLM X = 4) {d : Nat} (hD : dpM X = d) (hd : 2 ≤ d) {v0 : Nat} {v2 : Int32} {q : (Int32 × Mem)} : ∀ (f : Nat) (v1 : Int32) (v3 : Int32) (M : Mem), LH_lostBlocks_19 f v0 v1 v2 v3 M = some q → (hx0 : ∀ y : Int32 × Mem, q = y → ZM G X 58 [(0, .ref v0), (1, .int y.1), (2, .int v2)] [] y.2 0 0) → ZM G X 19 [(0, .ref v0), (1, .int v1), (2, .int v2), (3, .int v3)] [] M 0 0 := by
  intro f
  induction f with
  | zero => intro v1 v3 M h; cases h
  | succ f ih =>
    intro v1 v3 M h hx0
    exact zBH_lostBlocks_19 hG C N hD hd (K := LH_lostBlocks_19 f) (q := q) (fun v1 v3 M h => ih v1 v3 M h hx0) hx0 h
set_option maxHeartbeats 2000000 in
theorem zBH_lostBlocks_4 {G : GXM} {X : CxM} (hG : GokM G) (C : CoM G X cH_lostBlocks "HomeFreed$Heap") (N : mLM X = 4) {d : Nat} (hD : dpM X = d) (hd : 2 ≤ d) {v0 : Nat} {K : Nat → Int32 → Int32 → Mem → Option ((Int32 × Mem))} {q : (Int32 × Mem)} (hK : ∀ (v1 : Int32) (v2 : Int32) (M : Mem), K v0 v1 v2 M = some q → ZM G X 4 [(0, .ref v0), (1, .int v1), (2, .int v2)] [] M 0 0) (hr : ∀ r : Int32 × Mem, q =  r → EnM G X (some .int) (some (.int r.1)) r.2 0 0) {v1 : Int32} {v2 : Int32} {M : Mem} (h : BH_lostBlocks_4 K v0 v1 v2 M = some q) : ZM G X 4 [(0, .ref v0), (1, .int v1), (2, .int v2)] [] M 0 0 := by
  unfold BH_lostBlocks_4 at h
  refine zz_iload_n C 2 ddH_lostBlocks_4 rfl rfl ?_
  refine zz_aload_n C 0 ddH_lostBlocks_5 rfl rfl ?_
  obtain ⟨h1, h⟩ := gdN h
  obtain ⟨h2, h⟩ := gdN h
  refine zz_getr C ddH_lostBlocks_6 fl_H_46 rfl h1 (of_decide_eq_true h2) ?_
  obtain ⟨h3, h⟩ := gdN h
  obtain ⟨h4, h⟩ := gdN h
  refine zz_getr C ddH_lostBlocks_9 fl_H_76 rfl h3 (of_decide_eq_true h4) ?_
  refine zz_iconst (v := 1) C ddH_lostBlocks_12 (by decide) ?_
  obtain ⟨h5, h⟩ := gdN h
  refine zz_iaload C ddH_lostBlocks_13 h5 ?_
  refine zz_icmp_ge (tgt := 64) C ddH_lostBlocks_14 rfl (fun hc => ?_) (fun hc => ?_)
  · replace h := iteT h hc
    refine zz_iload_n C 1 ddH_lostBlocks_64 rfl rfl ?_
    exact zz_iret C (hr _ (Option.some.inj h).symm) ddH_lostBlocks_65
  · replace h := iteF h hc
    refine zz_iconst (v := 0) C ddH_lostBlocks_17 (by decide) ?_
    refine zz_istore_n (L1 := [(3, .int 0), (0, .ref v0), (1, .int v1), (2, .int v2)]) C ddH_lostBlocks_18 rfl N (by decide) rfl ?_
    refine zz_loc (L1 := [(0, .ref v0), (1, .int v1), (2, .int v2), (3, .int 0)]) [1, 2, 3, 0] rfl ?_
    obtain ⟨q6, hq6, h⟩ := bindN h
    refine zLH_lostBlocks_19 hG C N hD hd 1000000 _ _ _ hq6 ?_
    · intro y7 eq6; subst eq6
      refine zz_iinc (v := v2 + 1) (L1 := [(2, .int (v2 + 1)), (0, .ref v0), (1, .int y7.1)]) C 2 ddH_lostBlocks_58 rfl rfl N (by decide) rfl ?_
      refine zz_goto (tgt := 4) C ddH_lostBlocks_61 rfl ?_
      refine zz_loc (L1 := [(0, .ref v0), (1, .int y7.1), (2, .int (v2 + 1))]) [1, 2, 0] rfl ?_
      exact hK _ _ _ h
set_option maxHeartbeats 2000000 in
theorem zLH_lostBlocks_4 {G : GXM} {X : CxM} (hG : GokM G) (C : CoM G X cH_lostBlocks "HomeFreed$Heap") (N : mLM X = 4) {d : Nat} (hD : dpM X = d) (hd : 2 ≤ d) {v0 : Nat} {q : (Int32 × Mem)} : ∀ (f : Nat) (v1 : Int32) (v2 : Int32) (M : Mem), LH_lostBlocks_4 f v0 v1 v2 M = some q → (hr : ∀ r : Int32 × Mem, q =  r → EnM G X (some .int) (some (.int r.1)) r.2 0 0) → ZM G X 4 [(0, .ref v0), (1, .int v1), (2, .int v2)] [] M 0 0 := by
  intro f
  induction f with
  | zero => intro v1 v2 M h; cases h
  | succ f ih =>
    intro v1 v2 M h hr
    exact zBH_lostBlocks_4 hG C N hD hd (K := LH_lostBlocks_4 f) (q := q) (fun v1 v2 M h => ih v1 v2 M h hr) hr h
set_option maxHeartbeats 2000000 in
theorem xH_lostBlocks {G : GXM} {l : Launch} (hG : GokM G) (d : Nat) (hd : 2 ≤ d) {v0 : Nat} {M : Mem} {q : Int32 × Mem} (h : fH_lostBlocks v0 M = some q) : ExM G l d 0 0 yH_lostBlocks cH_lostBlocks 4 (some .int) [.ref v0] M (some (.int q.1)) q.2 := by
  refine ex_of hG (by decide) (Nat.le_of_ble_eq_true rfl) ?_
  intro X hl C E N hD hn
  show ZM G X 0 [(2, .int v2), (1, .int v1), (0, .ref v0)] [] M 0 0
  unfold fH_lostBlocks at h
  refine zz_iconst (v := 0) C ddH_lostBlocks_0 (by decide) ?_
  refine zz_istore_n (L1 := [(1, .int 0), (0, .ref v0)]) C ddH_lostBlocks_1 rfl N (by decide) rfl ?_
  refine zz_iconst (v := 0) C ddH_lostBlocks_2 (by decide) ?_
  refine zz_istore_n (L1 := [(2, .int 0), (1, .int 0), (0, .ref v0)]) C ddH_lostBlocks_3 rfl N (by decide) rfl ?_
  refine zz_loc (L1 := [(0, .ref v0), (1, .int 0), (2, .int 0)]) [2, 1, 0] rfl ?_
  obtain ⟨q1, hq1, h⟩ := bindN h
  refine zLH_lostBlocks_4 hG C N hD hd 1000000 _ _ _ hq1 ?_
  · intro r2 eq1; subst eq1
    obtain rfl := Option.some.inj h
    exact E
theorem ddA_most_0 : decode cA_most 0 = .ok (.aload_n 0, 1) := by decide +kernel
theorem ddA_most_1 : decode cA_most 1 = .ok (.getfield 28, 3) := by decide +kernel
theorem ddA_most_4 : decode cA_most 4 = .ok (.invokevirtual 132, 3) := by decide +kernel
theorem ddA_most_7 : decode cA_most 7 = .ok (.ifCond .ne 7, 3) := by decide +kernel
theorem ddA_most_10 : decode cA_most 10 = .ok (.ldc_w 300, 3) := by decide +kernel
theorem ddA_most_13 : decode cA_most 13 = .ok (.ireturn, 1) := by decide +kernel
theorem ddA_most_14 : decode cA_most 14 = .ok (.iload_n 1, 1) := by decide +kernel
theorem ddA_most_15 : decode cA_most 15 = .ok (.tableswitch 155 0 11 #[61, 66, 71, 79, 88, 97, 106, 115, 123, 131, 139, 147], 61) := by decide +kernel
theorem ddA_most_76 : decode cA_most 76 = .ok (.aload_n 0, 1) := by decide +kernel
theorem ddA_most_77 : decode cA_most 77 = .ok (.invokevirtual 369, 3) := by decide +kernel
theorem ddA_most_80 : decode cA_most 80 = .ok (.ireturn, 1) := by decide +kernel
theorem ddA_most_81 : decode cA_most 81 = .ok (.aload_n 0, 1) := by decide +kernel
theorem ddA_most_82 : decode cA_most 82 = .ok (.invokevirtual 372, 3) := by decide +kernel
theorem ddA_most_85 : decode cA_most 85 = .ok (.ireturn, 1) := by decide +kernel
theorem ddA_most_86 : decode cA_most 86 = .ok (.aload_n 0, 1) := by decide +kernel
theorem ddA_most_87 : decode cA_most 87 = .ok (.getfield 55, 3) := by decide +kernel
theorem ddA_most_90 : decode cA_most 90 = .ok (.invokevirtual 375, 3) := by decide +kernel
theorem ddA_most_93 : decode cA_most 93 = .ok (.ireturn, 1) := by decide +kernel
theorem ddA_most_94 : decode cA_most 94 = .ok (.aload_n 0, 1) := by decide +kernel
theorem ddA_most_95 : decode cA_most 95 = .ok (.getfield 55, 3) := by decide +kernel
theorem ddA_most_98 : decode cA_most 98 = .ok (.iconst 3, 1) := by decide +kernel
theorem ddA_most_99 : decode cA_most 99 = .ok (.invokevirtual 378, 3) := by decide +kernel
theorem ddA_most_102 : decode cA_most 102 = .ok (.ireturn, 1) := by decide +kernel
theorem ddA_most_103 : decode cA_most 103 = .ok (.aload_n 0, 1) := by decide +kernel
theorem ddA_most_104 : decode cA_most 104 = .ok (.getfield 55, 3) := by decide +kernel
theorem ddA_most_107 : decode cA_most 107 = .ok (.iconst 0, 1) := by decide +kernel
theorem ddA_most_108 : decode cA_most 108 = .ok (.invokevirtual 378, 3) := by decide +kernel
theorem ddA_most_111 : decode cA_most 111 = .ok (.ireturn, 1) := by decide +kernel
theorem ddA_most_112 : decode cA_most 112 = .ok (.aload_n 0, 1) := by decide +kernel
theorem ddA_most_113 : decode cA_most 113 = .ok (.getfield 55, 3) := by decide +kernel
theorem ddA_most_116 : decode cA_most 116 = .ok (.iconst 2, 1) := by decide +kernel
theorem ddA_most_117 : decode cA_most 117 = .ok (.invokevirtual 378, 3) := by decide +kernel
theorem ddA_most_120 : decode cA_most 120 = .ok (.ireturn, 1) := by decide +kernel
theorem ddA_most_121 : decode cA_most 121 = .ok (.aload_n 0, 1) := by decide +kernel
theorem ddA_most_122 : decode cA_most 122 = .ok (.getfield 55, 3) := by decide +kernel
theorem ddA_most_125 : decode cA_most 125 = .ok (.iconst 1, 1) := by decide +kernel
theorem ddA_most_126 : decode cA_most 126 = .ok (.invokevirtual 378, 3) := by decide +kernel
theorem ddA_most_129 : decode cA_most 129 = .ok (.ireturn, 1) := by decide +kernel
theorem ddA_most_130 : decode cA_most 130 = .ok (.aload_n 0, 1) := by decide +kernel
theorem ddA_most_131 : decode cA_most 131 = .ok (.getfield 55, 3) := by decide +kernel
theorem ddA_most_134 : decode cA_most 134 = .ok (.invokevirtual 259, 3) := by decide +kernel
theorem ddA_most_137 : decode cA_most 137 = .ok (.ireturn, 1) := by decide +kernel
theorem ddA_most_138 : decode cA_most 138 = .ok (.aload_n 0, 1) := by decide +kernel
theorem ddA_most_139 : decode cA_most 139 = .ok (.getfield 55, 3) := by decide +kernel
theorem ddA_most_142 : decode cA_most 142 = .ok (.invokevirtual 381, 3) := by decide +kernel
theorem ddA_most_145 : decode cA_most 145 = .ok (.ireturn, 1) := by decide +kernel
theorem ddA_most_146 : decode cA_most 146 = .ok (.aload_n 0, 1) := by decide +kernel
theorem ddA_most_147 : decode cA_most 147 = .ok (.getfield 55, 3) := by decide +kernel
theorem ddA_most_150 : decode cA_most 150 = .ok (.invokevirtual 384, 3) := by decide +kernel
theorem ddA_most_153 : decode cA_most 153 = .ok (.ireturn, 1) := by decide +kernel
theorem ddA_most_154 : decode cA_most 154 = .ok (.aload_n 0, 1) := by decide +kernel
theorem ddA_most_155 : decode cA_most 155 = .ok (.getfield 55, 3) := by decide +kernel
theorem ddA_most_158 : decode cA_most 158 = .ok (.invokevirtual 387, 3) := by decide +kernel
theorem ddA_most_161 : decode cA_most 161 = .ok (.ireturn, 1) := by decide +kernel
theorem ddA_most_162 : decode cA_most 162 = .ok (.aload_n 0, 1) := by decide +kernel
theorem ddA_most_163 : decode cA_most 163 = .ok (.getfield 55, 3) := by decide +kernel
theorem ddA_most_166 : decode cA_most 166 = .ok (.invokevirtual 390, 3) := by decide +kernel
theorem ddA_most_169 : decode cA_most 169 = .ok (.ireturn, 1) := by decide +kernel
theorem ddA_most_170 : decode cA_most 170 = .ok (.ldc_w 300, 3) := by decide +kernel
theorem ddA_most_173 : decode cA_most 173 = .ok (.ireturn, 1) := by decide +kernel
set_option maxHeartbeats 2000000 in
theorem xA_most {G : GXM} {l : Launch} (hG : GokM G) (d : Nat) (hd : 3 ≤ d) {v0 : Nat} {v1 : Int32} {M : Mem} {q : Int32 × Mem} (h : fA_most v0 v1 M = some q) : ExM G l d 0 0 yA_most cA_most 2 (some .int) [.ref v0, .int v1] M (some (.int q.1)) q.2 := by
  refine ex_of hG (by decide) (Nat.le_of_ble_eq_true rfl) ?_
  intro X hl C E N hD hn
  show ZM G X 0 [(0, .ref v0), (1, .int v1)] [] M 0 0
  unfold fA_most at h
  refine zz_aload_n C 0 ddA_most_0 rfl rfl ?_
  obtain ⟨h1, h⟩ := gdN h
  obtain ⟨h2, h⟩ := gdN h
  refine zz_getr C ddA_most_1 fl_A_28 rfl h1 (of_decide_eq_true h2) ?_
  obtain ⟨h4, h⟩ := gdN h
  obtain ⟨q3, hq3, h⟩ := bindN h
  refine zz_callV0 (As := []) C ddA_most_4 wd_566 my_U_areTold mv_U_areTold ⟨_, rfl, rfl⟩ (xU_areTold hG (d - 1) (by omega) hq3) (by omega) h4 rfl rfl (Nat.le_of_ble_eq_true rfl) ?_
  refine zz_if_ne (tgt := 14) C ddA_most_7 rfl (fun hc => ?_) (fun hc => ?_)
  · replace h := iteF h hc
    refine zz_iload_n C 1 ddA_most_14 rfl rfl ?_
    by_cases hs15_0 : v1 = 0
    · replace h := iteT h hs15_0
      rw [hs15_0]
      refine zz_tableIn (tgt := 76) C ddA_most_15 (by decide) (by decide) rfl rfl ?_
      refine zz_aload_n C 0 ddA_most_76 rfl rfl ?_
      obtain ⟨h6, h⟩ := gdN h
      obtain ⟨q5, hq5, h⟩ := bindN h
      refine zz_callV0 (As := []) C ddA_most_77 wd_1029 my_A_fullest mv_A_fullest ⟨_, rfl, rfl⟩ (xA_fullest hG (d - 1) (by omega) hq5) (by omega) h6 rfl rfl (Nat.le_of_ble_eq_true rfl) ?_
      obtain rfl := Option.some.inj h
      exact zz_iret C E ddA_most_80
    replace h := iteF h hs15_0
    by_cases hs15_1 : v1 = 1
    · replace h := iteT h hs15_1
      rw [hs15_1]
      refine zz_tableIn (tgt := 81) C ddA_most_15 (by decide) (by decide) rfl rfl ?_
      refine zz_aload_n C 0 ddA_most_81 rfl rfl ?_
      obtain ⟨h8, h⟩ := gdN h
      obtain ⟨q7, hq7, h⟩ := bindN h
      refine zz_callV0 (As := []) C ddA_most_82 wd_1033 my_A_richest mv_A_richest ⟨_, rfl, rfl⟩ (xA_richest hG (d - 1) (by omega) hq7) (by omega) h8 rfl rfl (Nat.le_of_ble_eq_true rfl) ?_
      obtain rfl := Option.some.inj h
      exact zz_iret C E ddA_most_85
    replace h := iteF h hs15_1
    by_cases hs15_2 : v1 = 2
    · replace h := iteT h hs15_2
      rw [hs15_2]
      refine zz_tableIn (tgt := 86) C ddA_most_15 (by decide) (by decide) rfl rfl ?_
      refine zz_aload_n C 0 ddA_most_86 rfl rfl ?_
      obtain ⟨h9, h⟩ := gdN h
      obtain ⟨h10, h⟩ := gdN h
      refine zz_getr C ddA_most_87 fl_A_55 rfl h9 (of_decide_eq_true h10) ?_
      obtain ⟨h12, h⟩ := gdN h
      obtain ⟨q11, hq11, h⟩ := bindN h
      refine zz_callV0 (As := []) C ddA_most_90 wd_1037 my_H_livingBits mv_H_livingBits ⟨_, rfl, rfl⟩ (xH_livingBits hG (d - 1) (by omega) hq11) (by omega) h12 rfl rfl (Nat.le_of_ble_eq_true rfl) ?_
      obtain rfl := Option.some.inj h
      exact zz_iret C E ddA_most_93
    replace h := iteF h hs15_2
    by_cases hs15_3 : v1 = 3
    · replace h := iteT h hs15_3
      rw [hs15_3]
      refine zz_tableIn (tgt := 94) C ddA_most_15 (by decide) (by decide) rfl rfl ?_
      refine zz_aload_n C 0 ddA_most_94 rfl rfl ?_
      obtain ⟨h13, h⟩ := gdN h
      obtain ⟨h14, h⟩ := gdN h
      refine zz_getr C ddA_most_95 fl_A_55 rfl h13 (of_decide_eq_true h14) ?_
      refine zz_iconst (v := 3) C ddA_most_98 (by decide) ?_
      obtain ⟨h16, h⟩ := gdN h
      obtain ⟨q15, hq15, h⟩ := bindN h
      refine zz_callV0 (As := [.int 3]) C ddA_most_99 wd_1041 my_H_bitsOf mv_H_bitsOf ⟨_, rfl, rfl⟩ (xH_bitsOf hG (d - 1) (by omega) hq15) (by omega) h16 rfl rfl (Nat.le_of_ble_eq_true rfl) ?_
      obtain rfl := Option.some.inj h
      exact zz_iret C E ddA_most_102
    replace h := iteF h hs15_3
    by_cases hs15_4 : v1 = 4
    · replace h := iteT h hs15_4
      rw [hs15_4]
      refine zz_tableIn (tgt := 103) C ddA_most_15 (by decide) (by decide) rfl rfl ?_
      refine zz_aload_n C 0 ddA_most_103 rfl rfl ?_
      obtain ⟨h17, h⟩ := gdN h
      obtain ⟨h18, h⟩ := gdN h
      refine zz_getr C ddA_most_104 fl_A_55 rfl h17 (of_decide_eq_true h18) ?_
      refine zz_iconst (v := 0) C ddA_most_107 (by decide) ?_
      obtain ⟨h20, h⟩ := gdN h
      obtain ⟨q19, hq19, h⟩ := bindN h
      refine zz_callV0 (As := [.int 0]) C ddA_most_108 wd_1041 my_H_bitsOf mv_H_bitsOf ⟨_, rfl, rfl⟩ (xH_bitsOf hG (d - 1) (by omega) hq19) (by omega) h20 rfl rfl (Nat.le_of_ble_eq_true rfl) ?_
      obtain rfl := Option.some.inj h
      exact zz_iret C E ddA_most_111
    replace h := iteF h hs15_4
    by_cases hs15_5 : v1 = 5
    · replace h := iteT h hs15_5
      rw [hs15_5]
      refine zz_tableIn (tgt := 112) C ddA_most_15 (by decide) (by decide) rfl rfl ?_
      refine zz_aload_n C 0 ddA_most_112 rfl rfl ?_
      obtain ⟨h21, h⟩ := gdN h
      obtain ⟨h22, h⟩ := gdN h
      refine zz_getr C ddA_most_113 fl_A_55 rfl h21 (of_decide_eq_true h22) ?_
      refine zz_iconst (v := 2) C ddA_most_116 (by decide) ?_
      obtain ⟨h24, h⟩ := gdN h
      obtain ⟨q23, hq23, h⟩ := bindN h
      refine zz_callV0 (As := [.int 2]) C ddA_most_117 wd_1041 my_H_bitsOf mv_H_bitsOf ⟨_, rfl, rfl⟩ (xH_bitsOf hG (d - 1) (by omega) hq23) (by omega) h24 rfl rfl (Nat.le_of_ble_eq_true rfl) ?_
      obtain rfl := Option.some.inj h
      exact zz_iret C E ddA_most_120
    replace h := iteF h hs15_5
    by_cases hs15_6 : v1 = 6
    · replace h := iteT h hs15_6
      rw [hs15_6]
      refine zz_tableIn (tgt := 121) C ddA_most_15 (by decide) (by decide) rfl rfl ?_
      refine zz_aload_n C 0 ddA_most_121 rfl rfl ?_
      obtain ⟨h25, h⟩ := gdN h
      obtain ⟨h26, h⟩ := gdN h
      refine zz_getr C ddA_most_122 fl_A_55 rfl h25 (of_decide_eq_true h26) ?_
      refine zz_iconst (v := 1) C ddA_most_125 (by decide) ?_
      obtain ⟨h28, h⟩ := gdN h
      obtain ⟨q27, hq27, h⟩ := bindN h
      refine zz_callV0 (As := [.int 1]) C ddA_most_126 wd_1041 my_H_bitsOf mv_H_bitsOf ⟨_, rfl, rfl⟩ (xH_bitsOf hG (d - 1) (by omega) hq27) (by omega) h28 rfl rfl (Nat.le_of_ble_eq_true rfl) ?_
      obtain rfl := Option.some.inj h
      exact zz_iret C E ddA_most_129
    replace h := iteF h hs15_6
    by_cases hs15_7 : v1 = 7
    · replace h := iteT h hs15_7
      rw [hs15_7]
      refine zz_tableIn (tgt := 130) C ddA_most_15 (by decide) (by decide) rfl rfl ?_
      refine zz_aload_n C 0 ddA_most_130 rfl rfl ?_
      obtain ⟨h29, h⟩ := gdN h
      obtain ⟨h30, h⟩ := gdN h
      refine zz_getr C ddA_most_131 fl_A_55 rfl h29 (of_decide_eq_true h30) ?_
      obtain ⟨h32, h⟩ := gdN h
      obtain ⟨q31, hq31, h⟩ := bindN h
      refine zz_callV0 (As := []) C ddA_most_134 wd_872 my_H_heldInAll mv_H_heldInAll ⟨_, rfl, rfl⟩ (xH_heldInAll hG (d - 1) (by omega) hq31) (by omega) h32 rfl rfl (Nat.le_of_ble_eq_true rfl) ?_
      obtain rfl := Option.some.inj h
      exact zz_iret C E ddA_most_137
    replace h := iteF h hs15_7
    by_cases hs15_8 : v1 = 8
    · replace h := iteT h hs15_8
      rw [hs15_8]
      refine zz_tableIn (tgt := 138) C ddA_most_15 (by decide) (by decide) rfl rfl ?_
      refine zz_aload_n C 0 ddA_most_138 rfl rfl ?_
      obtain ⟨h33, h⟩ := gdN h
      obtain ⟨h34, h⟩ := gdN h
      refine zz_getr C ddA_most_139 fl_A_55 rfl h33 (of_decide_eq_true h34) ?_
      obtain ⟨h36, h⟩ := gdN h
      obtain ⟨q35, hq35, h⟩ := bindN h
      refine zz_callV0 (As := []) C ddA_most_142 wd_1049 my_H_outInAll mv_H_outInAll ⟨_, rfl, rfl⟩ (xH_outInAll hG (d - 1) (by omega) hq35) (by omega) h36 rfl rfl (Nat.le_of_ble_eq_true rfl) ?_
      obtain rfl := Option.some.inj h
      exact zz_iret C E ddA_most_145
    replace h := iteF h hs15_8
    by_cases hs15_9 : v1 = 9
    · replace h := iteT h hs15_9
      rw [hs15_9]
      refine zz_tableIn (tgt := 146) C ddA_most_15 (by decide) (by decide) rfl rfl ?_
      refine zz_aload_n C 0 ddA_most_146 rfl rfl ?_
      obtain ⟨h37, h⟩ := gdN h
      obtain ⟨h38, h⟩ := gdN h
      refine zz_getr C ddA_most_147 fl_A_55 rfl h37 (of_decide_eq_true h38) ?_
      obtain ⟨h40, h⟩ := gdN h
      obtain ⟨q39, hq39, h⟩ := bindN h
      refine zz_callV0 (As := []) C ddA_most_150 wd_1054 my_H_idleUnits mv_H_idleUnits ⟨_, rfl, rfl⟩ (xH_idleUnits hG (d - 1) (by omega) hq39) (by omega) h40 rfl rfl (Nat.le_of_ble_eq_true rfl) ?_
      obtain rfl := Option.some.inj h
      exact zz_iret C E ddA_most_153
    replace h := iteF h hs15_9
    by_cases hs15_10 : v1 = 10
    · replace h := iteT h hs15_10
      rw [hs15_10]
      refine zz_tableIn (tgt := 154) C ddA_most_15 (by decide) (by decide) rfl rfl ?_
      refine zz_aload_n C 0 ddA_most_154 rfl rfl ?_
      obtain ⟨h41, h⟩ := gdN h
      obtain ⟨h42, h⟩ := gdN h
      refine zz_getr C ddA_most_155 fl_A_55 rfl h41 (of_decide_eq_true h42) ?_
      obtain ⟨h44, h⟩ := gdN h
      obtain ⟨q43, hq43, h⟩ := bindN h
      refine zz_callV0 (As := []) C ddA_most_158 wd_1059 my_H_foreignInAll mv_H_foreignInAll ⟨_, rfl, rfl⟩ (xH_foreignInAll hG (d - 1) (by omega) hq43) (by omega) h44 rfl rfl (Nat.le_of_ble_eq_true rfl) ?_
      obtain rfl := Option.some.inj h
      exact zz_iret C E ddA_most_161
    replace h := iteF h hs15_10
    by_cases hs15_11 : v1 = 11
    · replace h := iteT h hs15_11
      rw [hs15_11]
      refine zz_tableIn (tgt := 162) C ddA_most_15 (by decide) (by decide) rfl rfl ?_
      refine zz_aload_n C 0 ddA_most_162 rfl rfl ?_
      obtain ⟨h45, h⟩ := gdN h
      obtain ⟨h46, h⟩ := gdN h
      refine zz_getr C ddA_most_163 fl_A_55 rfl h45 (of_decide_eq_true h46) ?_
      obtain ⟨h48, h⟩ := gdN h
      obtain ⟨q47, hq47, h⟩ := bindN h
      refine zz_callV0 (As := []) C ddA_most_166 wd_1063 my_H_lostBlocks mv_H_lostBlocks ⟨_, rfl, rfl⟩ (xH_lostBlocks hG (d - 1) (by omega) hq47) (by omega) h48 rfl rfl (Nat.le_of_ble_eq_true rfl) ?_
      obtain rfl := Option.some.inj h
      exact zz_iret C E ddA_most_169
    replace h := iteF h hs15_11
    have ths15_0 := lv_neT (a := 0) hs15_0 (by decide)
    have ths15_1 := lv_neT (a := 1) hs15_1 (by decide)
    have ths15_2 := lv_neT (a := 2) hs15_2 (by decide)
    have ths15_3 := lv_neT (a := 3) hs15_3 (by decide)
    have ths15_4 := lv_neT (a := 4) hs15_4 (by decide)
    have ths15_5 := lv_neT (a := 5) hs15_5 (by decide)
    have ths15_6 := lv_neT (a := 6) hs15_6 (by decide)
    have ths15_7 := lv_neT (a := 7) hs15_7 (by decide)
    have ths15_8 := lv_neT (a := 8) hs15_8 (by decide)
    have ths15_9 := lv_neT (a := 9) hs15_9 (by decide)
    have ths15_10 := lv_neT (a := 10) hs15_10 (by decide)
    have ths15_11 := lv_neT (a := 11) hs15_11 (by decide)
    refine zz_tableOut (tgt := 170) C ddA_most_15 (by omega) rfl ?_
    refine zz_ldcw C ddA_most_170 wd_925 rfl ?_
    obtain rfl := Option.some.inj h
    exact zz_iret C E ddA_most_173
  · replace h := iteT h hc
    refine zz_ldcw C ddA_most_10 wd_925 rfl ?_
    obtain rfl := Option.some.inj h
    exact zz_iret C E ddA_most_13
theorem ddA_image_0 : decode cA_image 0 = .ok (.aload_n 0, 1) := by decide +kernel
theorem ddA_image_1 : decode cA_image 1 = .ok (.getfield 28, 3) := by decide +kernel
theorem ddA_image_4 : decode cA_image 4 = .ok (.invokevirtual 132, 3) := by decide +kernel
theorem ddA_image_7 : decode cA_image 7 = .ok (.ifCond .ne 5, 3) := by decide +kernel
theorem ddA_image_10 : decode cA_image 10 = .ok (.iconst (-1), 1) := by decide +kernel
theorem ddA_image_11 : decode cA_image 11 = .ok (.ireturn, 1) := by decide +kernel
theorem ddA_image_12 : decode cA_image 12 = .ok (.aload_n 0, 1) := by decide +kernel
theorem ddA_image_13 : decode cA_image 13 = .ok (.getfield 66, 3) := by decide +kernel
theorem ddA_image_16 : decode cA_image 16 = .ok (.aload_n 0, 1) := by decide +kernel
theorem ddA_image_17 : decode cA_image 17 = .ok (.getfield 55, 3) := by decide +kernel
theorem ddA_image_20 : decode cA_image 20 = .ok (.invokevirtual 335, 3) := by decide +kernel
theorem ddA_image_23 : decode cA_image 23 = .ok (.aload_n 0, 1) := by decide +kernel
theorem ddA_image_24 : decode cA_image 24 = .ok (.iconst 1, 1) := by decide +kernel
theorem ddA_image_25 : decode cA_image 25 = .ok (.putfield 69, 3) := by decide +kernel
theorem ddA_image_28 : decode cA_image 28 = .ok (.aload_n 0, 1) := by decide +kernel
theorem ddA_image_29 : decode cA_image 29 = .ok (.getfield 55, 3) := by decide +kernel
theorem ddA_image_32 : decode cA_image 32 = .ok (.invokevirtual 259, 3) := by decide +kernel
theorem ddA_image_35 : decode cA_image 35 = .ok (.ireturn, 1) := by decide +kernel
set_option maxHeartbeats 2000000 in
theorem xA_image {G : GXM} {l : Launch} (hG : GokM G) (d : Nat) (hd : 3 ≤ d) {v0 : Nat} {M : Mem} {q : Int32 × Mem} (h : fA_image v0 M = some q) : ExM G l d 0 0 yA_image cA_image 1 (some .int) [.ref v0] M (some (.int q.1)) q.2 := by
  refine ex_of hG (by decide) (Nat.le_of_ble_eq_true rfl) ?_
  intro X hl C E N hD hn
  show ZM G X 0 [(0, .ref v0)] [] M 0 0
  unfold fA_image at h
  refine zz_aload_n C 0 ddA_image_0 rfl rfl ?_
  obtain ⟨h1, h⟩ := gdN h
  obtain ⟨h2, h⟩ := gdN h
  refine zz_getr C ddA_image_1 fl_A_28 rfl h1 (of_decide_eq_true h2) ?_
  obtain ⟨h4, h⟩ := gdN h
  obtain ⟨q3, hq3, h⟩ := bindN h
  refine zz_callV0 (As := []) C ddA_image_4 wd_566 my_U_areTold mv_U_areTold ⟨_, rfl, rfl⟩ (xU_areTold hG (d - 1) (by omega) hq3) (by omega) h4 rfl rfl (Nat.le_of_ble_eq_true rfl) ?_
  refine zz_if_ne (tgt := 12) C ddA_image_7 rfl (fun hc => ?_) (fun hc => ?_)
  · replace h := iteF h hc
    refine zz_aload_n C 0 ddA_image_12 rfl rfl ?_
    obtain ⟨h5, h⟩ := gdN h
    obtain ⟨h6, h⟩ := gdN h
    refine zz_getr C ddA_image_13 fl_A_66 rfl h5 (of_decide_eq_true h6) ?_
    refine zz_aload_n C 0 ddA_image_16 rfl rfl ?_
    obtain ⟨h7, h⟩ := gdN h
    refine zz_getr C ddA_image_17 fl_A_55 rfl h5 (of_decide_eq_true h7) ?_
    obtain ⟨h9, h⟩ := gdN h
    obtain ⟨q8, hq8, h⟩ := bindN h
    refine zz_callV0 (As := [.ref (grM q3.2 v0 7)]) C ddA_image_20 wd_963 my_H_copyFrom mv_H_copyFrom ⟨_, rfl, rfl⟩ (xH_copyFrom hG (d - 1) (by omega) hq8) (by omega) h9 rfl rfl (Nat.le_of_ble_eq_true rfl) ?_
    refine zz_aload_n C 0 ddA_image_23 rfl rfl ?_
    refine zz_iconst (v := 1) C ddA_image_24 (by decide) ?_
    obtain ⟨h10, h⟩ := gdN h
    refine zz_puti C ddA_image_25 fl_A_69 rfl rfl rfl h10 ?_
    refine zz_aload_n C 0 ddA_image_28 rfl rfl ?_
    obtain ⟨h11, h⟩ := gdN h
    refine zz_getr C ddA_image_29 fl_A_55 rfl h10 (of_decide_eq_true h11) ?_
    obtain ⟨h13, h⟩ := gdN h
    obtain ⟨q12, hq12, h⟩ := bindN h
    refine zz_callV0 (As := []) C ddA_image_32 wd_872 my_H_heldInAll mv_H_heldInAll ⟨_, rfl, rfl⟩ (xH_heldInAll hG (d - 1) (by omega) hq12) (by omega) h13 rfl rfl (Nat.le_of_ble_eq_true rfl) ?_
    obtain rfl := Option.some.inj h
    exact zz_iret C E ddA_image_35
  · replace h := iteT h hc
    refine zz_iconst (v := (-1)) C ddA_image_10 (by decide) ?_
    obtain rfl := Option.some.inj h
    exact zz_iret C E ddA_image_11
theorem ddA_back_0 : decode cA_back 0 = .ok (.aload_n 0, 1) := by decide +kernel
theorem ddA_back_1 : decode cA_back 1 = .ok (.getfield 69, 3) := by decide +kernel
theorem ddA_back_4 : decode cA_back 4 = .ok (.ifCond .ne 5, 3) := by decide +kernel
theorem ddA_back_7 : decode cA_back 7 = .ok (.iconst (-1), 1) := by decide +kernel
theorem ddA_back_8 : decode cA_back 8 = .ok (.ireturn, 1) := by decide +kernel
theorem ddA_back_9 : decode cA_back 9 = .ok (.aload_n 0, 1) := by decide +kernel
theorem ddA_back_10 : decode cA_back 10 = .ok (.getfield 55, 3) := by decide +kernel
theorem ddA_back_13 : decode cA_back 13 = .ok (.aload_n 0, 1) := by decide +kernel
theorem ddA_back_14 : decode cA_back 14 = .ok (.getfield 66, 3) := by decide +kernel
theorem ddA_back_17 : decode cA_back 17 = .ok (.invokevirtual 335, 3) := by decide +kernel
theorem ddA_back_20 : decode cA_back 20 = .ok (.aload_n 0, 1) := by decide +kernel
theorem ddA_back_21 : decode cA_back 21 = .ok (.getfield 62, 3) := by decide +kernel
theorem ddA_back_24 : decode cA_back 24 = .ok (.invokevirtual 123, 3) := by decide +kernel
theorem ddA_back_27 : decode cA_back 27 = .ok (.aload_n 0, 1) := by decide +kernel
theorem ddA_back_28 : decode cA_back 28 = .ok (.getfield 55, 3) := by decide +kernel
theorem ddA_back_31 : decode cA_back 31 = .ok (.invokevirtual 259, 3) := by decide +kernel
theorem ddA_back_34 : decode cA_back 34 = .ok (.ireturn, 1) := by decide +kernel
set_option maxHeartbeats 2000000 in
theorem xA_back {G : GXM} {l : Launch} (hG : GokM G) (d : Nat) (hd : 3 ≤ d) {v0 : Nat} {M : Mem} {q : Int32 × Mem} (h : fA_back v0 M = some q) : ExM G l d 0 0 yA_back cA_back 1 (some .int) [.ref v0] M (some (.int q.1)) q.2 := by
  refine ex_of hG (by decide) (Nat.le_of_ble_eq_true rfl) ?_
  intro X hl C E N hD hn
  show ZM G X 0 [(0, .ref v0)] [] M 0 0
  unfold fA_back at h
  refine zz_aload_n C 0 ddA_back_0 rfl rfl ?_
  obtain ⟨h1, h⟩ := gdN h
  refine zz_geti C ddA_back_1 fl_A_69 rfl h1 ?_
  refine zz_if_ne (tgt := 9) C ddA_back_4 rfl (fun hc => ?_) (fun hc => ?_)
  · replace h := iteF h hc
    refine zz_aload_n C 0 ddA_back_9 rfl rfl ?_
    obtain ⟨h2, h⟩ := gdN h
    refine zz_getr C ddA_back_10 fl_A_55 rfl h1 (of_decide_eq_true h2) ?_
    refine zz_aload_n C 0 ddA_back_13 rfl rfl ?_
    obtain ⟨h3, h⟩ := gdN h
    refine zz_getr C ddA_back_14 fl_A_66 rfl h1 (of_decide_eq_true h3) ?_
    obtain ⟨h5, h⟩ := gdN h
    obtain ⟨q4, hq4, h⟩ := bindN h
    refine zz_callV0 (As := [.ref (grM M v0 9)]) C ddA_back_17 wd_963 my_H_copyFrom mv_H_copyFrom ⟨_, rfl, rfl⟩ (xH_copyFrom hG (d - 1) (by omega) hq4) (by omega) h5 rfl rfl (Nat.le_of_ble_eq_true rfl) ?_
    refine zz_aload_n C 0 ddA_back_20 rfl rfl ?_
    obtain ⟨h6, h⟩ := gdN h
    obtain ⟨h7, h⟩ := gdN h
    refine zz_getr C ddA_back_21 fl_A_62 rfl h6 (of_decide_eq_true h7) ?_
    obtain ⟨h9, h⟩ := gdN h
    obtain ⟨q8, hq8, h⟩ := bindN h
    refine zz_callV0 (As := []) C ddA_back_24 wd_549 my_P_forget mv_P_forget ⟨_, rfl, rfl⟩ (xP_forget hG (d - 1) (by omega) hq8) (by omega) h9 rfl rfl (Nat.le_of_ble_eq_true rfl) ?_
    refine zz_aload_n C 0 ddA_back_27 rfl rfl ?_
    obtain ⟨h10, h⟩ := gdN h
    obtain ⟨h11, h⟩ := gdN h
    refine zz_getr C ddA_back_28 fl_A_55 rfl h10 (of_decide_eq_true h11) ?_
    obtain ⟨h13, h⟩ := gdN h
    obtain ⟨q12, hq12, h⟩ := bindN h
    refine zz_callV0 (As := []) C ddA_back_31 wd_872 my_H_heldInAll mv_H_heldInAll ⟨_, rfl, rfl⟩ (xH_heldInAll hG (d - 1) (by omega) hq12) (by omega) h13 rfl rfl (Nat.le_of_ble_eq_true rfl) ?_
    obtain rfl := Option.some.inj h
    exact zz_iret C E ddA_back_34
  · replace h := iteT h hc
    refine zz_iconst (v := (-1)) C ddA_back_7 (by decide) ?_
    obtain rfl := Option.some.inj h
    exact zz_iret C E ddA_back_8
theorem ddA_count_0 : decode cA_count 0 = .ok (.iload_n 1, 1) := by decide +kernel
theorem ddA_count_1 : decode cA_count 1 = .ok (.tableswitch 75 0 4 #[35, 43, 48, 56, 67], 35) := by decide +kernel
theorem ddA_count_36 : decode cA_count 36 = .ok (.aload_n 0, 1) := by decide +kernel
theorem ddA_count_37 : decode cA_count 37 = .ok (.getfield 28, 3) := by decide +kernel
theorem ddA_count_40 : decode cA_count 40 = .ok (.getfield 126, 3) := by decide +kernel
theorem ddA_count_43 : decode cA_count 43 = .ok (.ireturn, 1) := by decide +kernel
theorem ddA_count_44 : decode cA_count 44 = .ok (.aload_n 0, 1) := by decide +kernel
theorem ddA_count_45 : decode cA_count 45 = .ok (.getfield 42, 3) := by decide +kernel
theorem ddA_count_48 : decode cA_count 48 = .ok (.ireturn, 1) := by decide +kernel
theorem ddA_count_49 : decode cA_count 49 = .ok (.aload_n 0, 1) := by decide +kernel
theorem ddA_count_50 : decode cA_count 50 = .ok (.getfield 12, 3) := by decide +kernel
theorem ddA_count_53 : decode cA_count 53 = .ok (.getfield 98, 3) := by decide +kernel
theorem ddA_count_56 : decode cA_count 56 = .ok (.ireturn, 1) := by decide +kernel
theorem ddA_count_57 : decode cA_count 57 = .ok (.aload_n 0, 1) := by decide +kernel
theorem ddA_count_58 : decode cA_count 58 = .ok (.getfield 55, 3) := by decide +kernel
theorem ddA_count_61 : decode cA_count 61 = .ok (.getfield 280, 3) := by decide +kernel
theorem ddA_count_64 : decode cA_count 64 = .ok (.invokevirtual 284, 3) := by decide +kernel
theorem ddA_count_67 : decode cA_count 67 = .ok (.ireturn, 1) := by decide +kernel
theorem ddA_count_68 : decode cA_count 68 = .ok (.aload_n 0, 1) := by decide +kernel
theorem ddA_count_69 : decode cA_count 69 = .ok (.getfield 62, 3) := by decide +kernel
theorem ddA_count_72 : decode cA_count 72 = .ok (.getfield 393, 3) := by decide +kernel
theorem ddA_count_75 : decode cA_count 75 = .ok (.ireturn, 1) := by decide +kernel
theorem ddA_count_76 : decode cA_count 76 = .ok (.ldc_w 300, 3) := by decide +kernel
theorem ddA_count_79 : decode cA_count 79 = .ok (.ireturn, 1) := by decide +kernel
set_option maxHeartbeats 2000000 in
theorem xA_count {G : GXM} {l : Launch} (hG : GokM G) (d : Nat) (hd : 2 ≤ d) {v0 : Nat} {v1 : Int32} {M : Mem} {q : Int32 × Mem} (h : fA_count v0 v1 M = some q) : ExM G l d 0 0 yA_count cA_count 2 (some .int) [.ref v0, .int v1] M (some (.int q.1)) q.2 := by
  refine ex_of hG (by decide) (Nat.le_of_ble_eq_true rfl) ?_
  intro X hl C E N hD hn
  show ZM G X 0 [(0, .ref v0), (1, .int v1)] [] M 0 0
  unfold fA_count at h
  refine zz_iload_n C 1 ddA_count_0 rfl rfl ?_
  by_cases hs1_0 : v1 = 0
  · replace h := iteT h hs1_0
    rw [hs1_0]
    refine zz_tableIn (tgt := 36) C ddA_count_1 (by decide) (by decide) rfl rfl ?_
    refine zz_aload_n C 0 ddA_count_36 rfl rfl ?_
    obtain ⟨h1, h⟩ := gdN h
    obtain ⟨h2, h⟩ := gdN h
    refine zz_getr C ddA_count_37 fl_A_28 rfl h1 (of_decide_eq_true h2) ?_
    obtain ⟨h3, h⟩ := gdN h
    refine zz_geti C ddA_count_40 fl_A_126 rfl h3 ?_
    obtain rfl := Option.some.inj h
    exact zz_iret C E ddA_count_43
  replace h := iteF h hs1_0
  by_cases hs1_1 : v1 = 1
  · replace h := iteT h hs1_1
    rw [hs1_1]
    refine zz_tableIn (tgt := 44) C ddA_count_1 (by decide) (by decide) rfl rfl ?_
    refine zz_aload_n C 0 ddA_count_44 rfl rfl ?_
    obtain ⟨h4, h⟩ := gdN h
    refine zz_geti C ddA_count_45 fl_A_42 rfl h4 ?_
    obtain rfl := Option.some.inj h
    exact zz_iret C E ddA_count_48
  replace h := iteF h hs1_1
  by_cases hs1_2 : v1 = 2
  · replace h := iteT h hs1_2
    rw [hs1_2]
    refine zz_tableIn (tgt := 49) C ddA_count_1 (by decide) (by decide) rfl rfl ?_
    refine zz_aload_n C 0 ddA_count_49 rfl rfl ?_
    obtain ⟨h5, h⟩ := gdN h
    obtain ⟨h6, h⟩ := gdN h
    refine zz_getr C ddA_count_50 fl_A_12 rfl h5 (of_decide_eq_true h6) ?_
    obtain ⟨h7, h⟩ := gdN h
    refine zz_geti C ddA_count_53 fl_A_98 rfl h7 ?_
    obtain rfl := Option.some.inj h
    exact zz_iret C E ddA_count_56
  replace h := iteF h hs1_2
  by_cases hs1_3 : v1 = 3
  · replace h := iteT h hs1_3
    rw [hs1_3]
    refine zz_tableIn (tgt := 57) C ddA_count_1 (by decide) (by decide) rfl rfl ?_
    refine zz_aload_n C 0 ddA_count_57 rfl rfl ?_
    obtain ⟨h8, h⟩ := gdN h
    obtain ⟨h9, h⟩ := gdN h
    refine zz_getr C ddA_count_58 fl_A_55 rfl h8 (of_decide_eq_true h9) ?_
    obtain ⟨h10, h⟩ := gdN h
    obtain ⟨h11, h⟩ := gdN h
    refine zz_getr C ddA_count_61 fl_A_280 rfl h10 (of_decide_eq_true h11) ?_
    obtain ⟨h13, h⟩ := gdN h
    obtain ⟨q12, hq12, h⟩ := bindN h
    refine zz_callV0 (As := []) C ddA_count_64 wd_900 my_L_length mv_L_length ⟨_, rfl, rfl⟩ (xL_length hG (d - 1) (by omega) hq12) (by omega) h13 rfl rfl (Nat.le_of_ble_eq_true rfl) ?_
    obtain rfl := Option.some.inj h
    exact zz_iret C E ddA_count_67
  replace h := iteF h hs1_3
  by_cases hs1_4 : v1 = 4
  · replace h := iteT h hs1_4
    rw [hs1_4]
    refine zz_tableIn (tgt := 68) C ddA_count_1 (by decide) (by decide) rfl rfl ?_
    refine zz_aload_n C 0 ddA_count_68 rfl rfl ?_
    obtain ⟨h14, h⟩ := gdN h
    obtain ⟨h15, h⟩ := gdN h
    refine zz_getr C ddA_count_69 fl_A_62 rfl h14 (of_decide_eq_true h15) ?_
    obtain ⟨h16, h⟩ := gdN h
    refine zz_geti C ddA_count_72 fl_A_393 rfl h16 ?_
    obtain rfl := Option.some.inj h
    exact zz_iret C E ddA_count_75
  replace h := iteF h hs1_4
  have ths1_0 := lv_neT (a := 0) hs1_0 (by decide)
  have ths1_1 := lv_neT (a := 1) hs1_1 (by decide)
  have ths1_2 := lv_neT (a := 2) hs1_2 (by decide)
  have ths1_3 := lv_neT (a := 3) hs1_3 (by decide)
  have ths1_4 := lv_neT (a := 4) hs1_4 (by decide)
  refine zz_tableOut (tgt := 76) C ddA_count_1 (by omega) rfl ?_
  refine zz_ldcw C ddA_count_76 wd_925 rfl ?_
  obtain rfl := Option.some.inj h
  exact zz_iret C E ddA_count_79
theorem ddM_thrown_0 : decode cM_thrown 0 = .ok (.aload_n 0, 1) := by decide +kernel
theorem ddM_thrown_1 : decode cM_thrown 1 = .ok (.getfield 64, 3) := by decide +kernel
theorem ddM_thrown_4 : decode cM_thrown 4 = .ok (.ireturn, 1) := by decide +kernel
set_option maxHeartbeats 2000000 in
theorem xM_thrown {G : GXM} {l : Launch} (hG : GokM G) (d : Nat) (hd : 0 ≤ d) {v0 : Nat} {M : Mem} {q : Int32 × Mem} (h : fM_thrown v0 M = some q) : ExM G l d 0 0 yM_thrown cM_thrown 1 (some .int) [.ref v0] M (some (.int q.1)) q.2 := by
  refine ex_of hG (by decide) (Nat.le_of_ble_eq_true rfl) ?_
  intro X hl C E N hD hn
  show ZM G X 0 [(0, .ref v0)] [] M 0 0
  unfold fM_thrown at h
  refine zz_aload_n C 0 ddM_thrown_0 rfl rfl ?_
  obtain ⟨h1, h⟩ := gdN h
  refine zz_geti C ddM_thrown_1 fl_M_64 rfl h1 ?_
  obtain rfl := Option.some.inj h
  exact zz_iret C E ddM_thrown_4
theorem ddM_byteOf_0 : decode cM_byteOf 0 = .ok (.iload 5, 2) := by decide +kernel
theorem ddM_byteOf_2 : decode cM_byteOf 2 = .ok (.iconst 4, 1) := by decide +kernel
theorem ddM_byteOf_3 : decode cM_byteOf 3 = .ok (.if_icmp .ge 7, 3) := by decide +kernel
theorem ddM_byteOf_6 : decode cM_byteOf 6 = .ok (.iload_n 0, 1) := by decide +kernel
theorem ddM_byteOf_7 : decode cM_byteOf 7 = .ok (.goto 38, 3) := by decide +kernel
theorem ddM_byteOf_10 : decode cM_byteOf 10 = .ok (.iload 5, 2) := by decide +kernel
theorem ddM_byteOf_12 : decode cM_byteOf 12 = .ok (.bipush 8, 2) := by decide +kernel
theorem ddM_byteOf_14 : decode cM_byteOf 14 = .ok (.if_icmp .ge 7, 3) := by decide +kernel
theorem ddM_byteOf_17 : decode cM_byteOf 17 = .ok (.iload_n 1, 1) := by decide +kernel
theorem ddM_byteOf_18 : decode cM_byteOf 18 = .ok (.goto 27, 3) := by decide +kernel
theorem ddM_byteOf_21 : decode cM_byteOf 21 = .ok (.iload 5, 2) := by decide +kernel
theorem ddM_byteOf_23 : decode cM_byteOf 23 = .ok (.bipush 12, 2) := by decide +kernel
theorem ddM_byteOf_25 : decode cM_byteOf 25 = .ok (.if_icmp .ge 7, 3) := by decide +kernel
theorem ddM_byteOf_28 : decode cM_byteOf 28 = .ok (.iload_n 2, 1) := by decide +kernel
theorem ddM_byteOf_29 : decode cM_byteOf 29 = .ok (.goto 16, 3) := by decide +kernel
theorem ddM_byteOf_32 : decode cM_byteOf 32 = .ok (.iload 5, 2) := by decide +kernel
theorem ddM_byteOf_34 : decode cM_byteOf 34 = .ok (.bipush 16, 2) := by decide +kernel
theorem ddM_byteOf_36 : decode cM_byteOf 36 = .ok (.if_icmp .ge 7, 3) := by decide +kernel
theorem ddM_byteOf_39 : decode cM_byteOf 39 = .ok (.iload_n 3, 1) := by decide +kernel
theorem ddM_byteOf_40 : decode cM_byteOf 40 = .ok (.goto 5, 3) := by decide +kernel
theorem ddM_byteOf_43 : decode cM_byteOf 43 = .ok (.iload 4, 2) := by decide +kernel
theorem ddM_byteOf_45 : decode cM_byteOf 45 = .ok (.istore 6, 2) := by decide +kernel
theorem ddM_byteOf_47 : decode cM_byteOf 47 = .ok (.iload 6, 2) := by decide +kernel
theorem ddM_byteOf_49 : decode cM_byteOf 49 = .ok (.bipush 24, 2) := by decide +kernel
theorem ddM_byteOf_51 : decode cM_byteOf 51 = .ok (.bipush 8, 2) := by decide +kernel
theorem ddM_byteOf_53 : decode cM_byteOf 53 = .ok (.iload 5, 2) := by decide +kernel
theorem ddM_byteOf_55 : decode cM_byteOf 55 = .ok (.iconst 4, 1) := by decide +kernel
theorem ddM_byteOf_56 : decode cM_byteOf 56 = .ok (.irem, 1) := by decide +kernel
theorem ddM_byteOf_57 : decode cM_byteOf 57 = .ok (.imul, 1) := by decide +kernel
theorem ddM_byteOf_58 : decode cM_byteOf 58 = .ok (.isub, 1) := by decide +kernel
theorem ddM_byteOf_59 : decode cM_byteOf 59 = .ok (.ishr, 1) := by decide +kernel
theorem ddM_byteOf_60 : decode cM_byteOf 60 = .ok (.sipush 255, 3) := by decide +kernel
theorem ddM_byteOf_63 : decode cM_byteOf 63 = .ok (.iand, 1) := by decide +kernel
theorem ddM_byteOf_64 : decode cM_byteOf 64 = .ok (.ireturn, 1) := by decide +kernel
set_option maxHeartbeats 2000000 in
theorem zBM_byteOf_45 {G : GXM} {X : CxM} (hG : GokM G) (C : CoM G X cM_byteOf "HomeFreedModel") (N : mLM X = 7) {d : Nat} (hD : dpM X = d) (hd : 0 ≤ d)  {q : Int32 × Mem} (E : EnM G X (some .int) (some (.int q.1)) q.2 0 0) {v5 : Int32} {w0 : Int32} {M : Mem} (h : BM_byteOf_45 v5 w0 M = some q) : ZM G X 45 [(5, .int v5)] [.int w0] M 0 0 := by
  unfold BM_byteOf_45 at h
  refine zz_istore (L1 := [(6, .int w0), (5, .int v5)]) C ddM_byteOf_45 N (by decide) rfl ?_
  refine zz_iload C 0 ddM_byteOf_47 rfl ?_
  refine zz_bipush (v := 24) C ddM_byteOf_49 (by decide) ?_
  refine zz_bipush (v := 8) C ddM_byteOf_51 (by decide) ?_
  refine zz_iload C 1 ddM_byteOf_53 rfl ?_
  refine zz_iconst (v := 4) C ddM_byteOf_55 (by decide) ?_
  refine zz_irem C ddM_byteOf_56 (by decide) ?_
  refine zz_imul C ddM_byteOf_57 ?_
  refine zz_isub C ddM_byteOf_58 ?_
  refine zz_ishr C ddM_byteOf_59 ?_
  refine zz_sipush (v := 255) C ddM_byteOf_60 (by decide) ?_
  refine zz_iand C ddM_byteOf_63 ?_
  obtain rfl := Option.some.inj h
  exact zz_iret C E ddM_byteOf_64
set_option maxHeartbeats 2000000 in
theorem xM_byteOf {G : GXM} {l : Launch} (hG : GokM G) (d : Nat) (hd : 0 ≤ d) {v0 : Int32} {v1 : Int32} {v2 : Int32} {v3 : Int32} {v4 : Int32} {v5 : Int32} {M : Mem} {q : Int32 × Mem} (h : fM_byteOf v0 v1 v2 v3 v4 v5 M = some q) : ExM G l d 0 0 yM_byteOf cM_byteOf 7 (some .int) [.int v0, .int v1, .int v2, .int v3, .int v4, .int v5] M (some (.int q.1)) q.2 := by
  refine ex_of hG (by decide) (Nat.le_of_ble_eq_true rfl) ?_
  intro X hl C E N hD hn
  show ZM G X 0 [(0, .int v0), (1, .int v1), (2, .int v2), (3, .int v3), (4, .int v4), (5, .int v5)] [] M 0 0
  unfold fM_byteOf at h
  refine zz_iload C 5 ddM_byteOf_0 rfl ?_
  refine zz_iconst (v := 4) C ddM_byteOf_2 (by decide) ?_
  refine zz_icmp_ge (tgt := 10) C ddM_byteOf_3 rfl (fun hc => ?_) (fun hc => ?_)
  · replace h := iteT h hc
    refine zz_iload C 5 ddM_byteOf_10 rfl ?_
    refine zz_bipush (v := 8) C ddM_byteOf_12 (by decide) ?_
    refine zz_icmp_ge (tgt := 21) C ddM_byteOf_14 rfl (fun hc => ?_) (fun hc => ?_)
    · replace h := iteT h hc
      refine zz_iload C 5 ddM_byteOf_21 rfl ?_
      refine zz_bipush (v := 12) C ddM_byteOf_23 (by decide) ?_
      refine zz_icmp_ge (tgt := 32) C ddM_byteOf_25 rfl (fun hc => ?_) (fun hc => ?_)
      · replace h := iteT h hc
        refine zz_iload C 5 ddM_byteOf_32 rfl ?_
        refine zz_bipush (v := 16) C ddM_byteOf_34 (by decide) ?_
        refine zz_icmp_ge (tgt := 43) C ddM_byteOf_36 rfl (fun hc => ?_) (fun hc => ?_)
        · replace h := iteT h hc
          refine zz_iload C 4 ddM_byteOf_43 rfl ?_
          refine zz_loc (L1 := [(5, .int v5)]) [5] rfl ?_
          exact zBM_byteOf_45 hG C N hD hd E h
        · replace h := iteF h hc
          refine zz_iload_n C 3 ddM_byteOf_39 rfl rfl ?_
          refine zz_goto (tgt := 45) C ddM_byteOf_40 rfl ?_
          refine zz_loc (L1 := [(5, .int v5)]) [5] rfl ?_
          exact zBM_byteOf_45 hG C N hD hd E h
      · replace h := iteF h hc
        refine zz_iload_n C 2 ddM_byteOf_28 rfl rfl ?_
        refine zz_goto (tgt := 45) C ddM_byteOf_29 rfl ?_
        refine zz_loc (L1 := [(5, .int v5)]) [5] rfl ?_
        exact zBM_byteOf_45 hG C N hD hd E h
    · replace h := iteF h hc
      refine zz_iload_n C 1 ddM_byteOf_17 rfl rfl ?_
      refine zz_goto (tgt := 45) C ddM_byteOf_18 rfl ?_
      refine zz_loc (L1 := [(5, .int v5)]) [5] rfl ?_
      exact zBM_byteOf_45 hG C N hD hd E h
  · replace h := iteF h hc
    refine zz_iload_n C 0 ddM_byteOf_6 rfl rfl ?_
    refine zz_goto (tgt := 45) C ddM_byteOf_7 rfl ?_
    refine zz_loc (L1 := [(5, .int v5)]) [5] rfl ?_
    exact zBM_byteOf_45 hG C N hD hd E h
theorem ddM_feed_0 : decode cM_feed 0 = .ok (.iconst 0, 1) := by decide +kernel
theorem ddM_feed_1 : decode cM_feed 1 = .ok (.istore 6, 2) := by decide +kernel
theorem ddM_feed_3 : decode cM_feed 3 = .ok (.iconst 0, 1) := by decide +kernel
theorem ddM_feed_4 : decode cM_feed 4 = .ok (.istore 7, 2) := by decide +kernel
theorem ddM_feed_6 : decode cM_feed 6 = .ok (.iload 7, 2) := by decide +kernel
theorem ddM_feed_8 : decode cM_feed 8 = .ok (.bipush 20, 2) := by decide +kernel
theorem ddM_feed_10 : decode cM_feed 10 = .ok (.if_icmp .ge 34, 3) := by decide +kernel
theorem ddM_feed_13 : decode cM_feed 13 = .ok (.iload 6, 2) := by decide +kernel
theorem ddM_feed_15 : decode cM_feed 15 = .ok (.iload_n 1, 1) := by decide +kernel
theorem ddM_feed_16 : decode cM_feed 16 = .ok (.iload_n 2, 1) := by decide +kernel
theorem ddM_feed_17 : decode cM_feed 17 = .ok (.iload_n 3, 1) := by decide +kernel
theorem ddM_feed_18 : decode cM_feed 18 = .ok (.iload 4, 2) := by decide +kernel
theorem ddM_feed_20 : decode cM_feed 20 = .ok (.iload 5, 2) := by decide +kernel
theorem ddM_feed_22 : decode cM_feed 22 = .ok (.iload 7, 2) := by decide +kernel
theorem ddM_feed_24 : decode cM_feed 24 = .ok (.invokestatic 68, 3) := by decide +kernel
theorem ddM_feed_27 : decode cM_feed 27 = .ok (.ifCond .eq 7, 3) := by decide +kernel
theorem ddM_feed_30 : decode cM_feed 30 = .ok (.iconst 1, 1) := by decide +kernel
theorem ddM_feed_31 : decode cM_feed 31 = .ok (.goto 4, 3) := by decide +kernel
theorem ddM_feed_34 : decode cM_feed 34 = .ok (.iconst 0, 1) := by decide +kernel
theorem ddM_feed_35 : decode cM_feed 35 = .ok (.iadd, 1) := by decide +kernel
theorem ddM_feed_36 : decode cM_feed 36 = .ok (.istore 6, 2) := by decide +kernel
theorem ddM_feed_38 : decode cM_feed 38 = .ok (.iinc 7 1, 3) := by decide +kernel
theorem ddM_feed_41 : decode cM_feed 41 = .ok (.goto (-35), 3) := by decide +kernel
theorem ddM_feed_44 : decode cM_feed 44 = .ok (.aload_n 0, 1) := by decide +kernel
theorem ddM_feed_45 : decode cM_feed 45 = .ok (.getfield 72, 3) := by decide +kernel
theorem ddM_feed_48 : decode cM_feed 48 = .ok (.iload 6, 2) := by decide +kernel
theorem ddM_feed_50 : decode cM_feed 50 = .ok (.iadd, 1) := by decide +kernel
theorem ddM_feed_51 : decode cM_feed 51 = .ok (.sipush 240, 3) := by decide +kernel
theorem ddM_feed_54 : decode cM_feed 54 = .ok (.if_icmp .le 5, 3) := by decide +kernel
theorem ddM_feed_57 : decode cM_feed 57 = .ok (.iconst (-1), 1) := by decide +kernel
theorem ddM_feed_58 : decode cM_feed 58 = .ok (.ireturn, 1) := by decide +kernel
theorem ddM_feed_59 : decode cM_feed 59 = .ok (.iconst 0, 1) := by decide +kernel
theorem ddM_feed_60 : decode cM_feed 60 = .ok (.istore 7, 2) := by decide +kernel
theorem ddM_feed_62 : decode cM_feed 62 = .ok (.iload 7, 2) := by decide +kernel
theorem ddM_feed_64 : decode cM_feed 64 = .ok (.bipush 20, 2) := by decide +kernel
theorem ddM_feed_66 : decode cM_feed 66 = .ok (.if_icmp .ge 49, 3) := by decide +kernel
theorem ddM_feed_69 : decode cM_feed 69 = .ok (.iload_n 1, 1) := by decide +kernel
theorem ddM_feed_70 : decode cM_feed 70 = .ok (.iload_n 2, 1) := by decide +kernel
theorem ddM_feed_71 : decode cM_feed 71 = .ok (.iload_n 3, 1) := by decide +kernel
theorem ddM_feed_72 : decode cM_feed 72 = .ok (.iload 4, 2) := by decide +kernel
theorem ddM_feed_74 : decode cM_feed 74 = .ok (.iload 5, 2) := by decide +kernel
theorem ddM_feed_76 : decode cM_feed 76 = .ok (.iload 7, 2) := by decide +kernel
theorem ddM_feed_78 : decode cM_feed 78 = .ok (.invokestatic 68, 3) := by decide +kernel
theorem ddM_feed_81 : decode cM_feed 81 = .ok (.istore 8, 2) := by decide +kernel
theorem ddM_feed_83 : decode cM_feed 83 = .ok (.iload 8, 2) := by decide +kernel
theorem ddM_feed_85 : decode cM_feed 85 = .ok (.ifCond .eq 24, 3) := by decide +kernel
theorem ddM_feed_88 : decode cM_feed 88 = .ok (.aload_n 0, 1) := by decide +kernel
theorem ddM_feed_89 : decode cM_feed 89 = .ok (.getfield 9, 3) := by decide +kernel
theorem ddM_feed_92 : decode cM_feed 92 = .ok (.aload_n 0, 1) := by decide +kernel
theorem ddM_feed_93 : decode cM_feed 93 = .ok (.getfield 72, 3) := by decide +kernel
theorem ddM_feed_96 : decode cM_feed 96 = .ok (.iload 8, 2) := by decide +kernel
theorem ddM_feed_98 : decode cM_feed 98 = .ok (.iastore, 1) := by decide +kernel
theorem ddM_feed_99 : decode cM_feed 99 = .ok (.aload_n 0, 1) := by decide +kernel
theorem ddM_feed_100 : decode cM_feed 100 = .ok (.dup, 1) := by decide +kernel
theorem ddM_feed_101 : decode cM_feed 101 = .ok (.getfield 72, 3) := by decide +kernel
theorem ddM_feed_104 : decode cM_feed 104 = .ok (.iconst 1, 1) := by decide +kernel
theorem ddM_feed_105 : decode cM_feed 105 = .ok (.iadd, 1) := by decide +kernel
theorem ddM_feed_106 : decode cM_feed 106 = .ok (.putfield 72, 3) := by decide +kernel
theorem ddM_feed_109 : decode cM_feed 109 = .ok (.iinc 7 1, 3) := by decide +kernel
theorem ddM_feed_112 : decode cM_feed 112 = .ok (.goto (-50), 3) := by decide +kernel
theorem ddM_feed_115 : decode cM_feed 115 = .ok (.aload_n 0, 1) := by decide +kernel
theorem ddM_feed_116 : decode cM_feed 116 = .ok (.getfield 72, 3) := by decide +kernel
theorem ddM_feed_119 : decode cM_feed 119 = .ok (.ireturn, 1) := by decide +kernel
set_option maxHeartbeats 2000000 in
theorem zBM_feed_109 {G : GXM} {X : CxM} (hG : GokM G) (C : CoM G X cM_feed "HomeFreedModel") (N : mLM X = 9) {d : Nat} (hD : dpM X = d) (hd : 1 ≤ d) {v0 : Nat} {v1 : Int32} {v2 : Int32} {v3 : Int32} {v4 : Int32} {v5 : Int32} {K : Nat → Int32 → Int32 → Int32 → Int32 → Int32 → Int32 → Mem → Option ((Int32 × Mem))} {q : (Int32 × Mem)} (hK : ∀ (v7 : Int32) (M : Mem), K v0 v1 v2 v3 v4 v5 v7 M = some q → ZM G X 62 [(0, .ref v0), (1, .int v1), (2, .int v2), (3, .int v3), (4, .int v4), (5, .int v5), (7, .int v7)] [] M 0 0) (hr : ∀ r : Int32 × Mem, q =  r → EnM G X (some .int) (some (.int r.1)) r.2 0 0) {v7 : Int32} {M : Mem} (h : BM_feed_109 K v0 v1 v2 v3 v4 v5 v7 M = some q) : ZM G X 109 [(0, .ref v0), (1, .int v1), (2, .int v2), (3, .int v3), (4, .int v4), (5, .int v5), (7, .int v7)] [] M 0 0 := by
  unfold BM_feed_109 at h
  refine zz_iinc (v := v7 + 1) (L1 := [(7, .int (v7 + 1)), (0, .ref v0), (1, .int v1), (2, .int v2), (3, .int v3), (4, .int v4), (5, .int v5)]) C 6 ddM_feed_109 rfl rfl N (by decide) rfl ?_
  refine zz_goto (tgt := 62) C ddM_feed_112 rfl ?_
  refine zz_loc (L1 := [(0, .ref v0), (1, .int v1), (2, .int v2), (3, .int v3), (4, .int v4), (5, .int v5), (7, .int (v7 + 1))]) [1, 2, 3, 4, 5, 6, 0] rfl ?_
  exact hK _ _ h
set_option maxHeartbeats 2000000 in
theorem zBM_feed_62 {G : GXM} {X : CxM} (hG : GokM G) (C : CoM G X cM_feed "HomeFreedModel") (N : mLM X = 9) {d : Nat} (hD : dpM X = d) (hd : 1 ≤ d) {v0 : Nat} {v1 : Int32} {v2 : Int32} {v3 : Int32} {v4 : Int32} {v5 : Int32} {K : Nat → Int32 → Int32 → Int32 → Int32 → Int32 → Int32 → Mem → Option ((Int32 × Mem))} {q : (Int32 × Mem)} (hK : ∀ (v7 : Int32) (M : Mem), K v0 v1 v2 v3 v4 v5 v7 M = some q → ZM G X 62 [(0, .ref v0), (1, .int v1), (2, .int v2), (3, .int v3), (4, .int v4), (5, .int v5), (7, .int v7)] [] M 0 0) (hr : ∀ r : Int32 × Mem, q =  r → EnM G X (some .int) (some (.int r.1)) r.2 0 0) {v7 : Int32} {M : Mem} (h : BM_feed_62 K v0 v1 v2 v3 v4 v5 v7 M = some q) : ZM G X 62 [(0, .ref v0), (1, .int v1), (2, .int v2), (3, .int v3), (4, .int v4), (5, .int v5), (7, .int v7)] [] M 0 0 := by
  unfold BM_feed_62 at h
  refine zz_iload C 6 ddM_feed_62 rfl ?_
  refine zz_bipush (v := 20) C ddM_feed_64 (by decide) ?_
  refine zz_icmp_ge (tgt := 115) C ddM_feed_66 rfl (fun hc => ?_) (fun hc => ?_)
  · replace h := iteT h hc
    refine zz_aload_n C 0 ddM_feed_115 rfl rfl ?_
    obtain ⟨h1, h⟩ := gdN h
    refine zz_geti C ddM_feed_116 fl_M_72 rfl h1 ?_
    exact zz_iret C (hr _ (Option.some.inj h).symm) ddM_feed_119
  · replace h := iteF h hc
    refine zz_iload_n C 1 ddM_feed_69 rfl rfl ?_
    refine zz_iload_n C 2 ddM_feed_70 rfl rfl ?_
    refine zz_iload_n C 3 ddM_feed_71 rfl rfl ?_
    refine zz_iload C 4 ddM_feed_72 rfl ?_
    refine zz_iload C 5 ddM_feed_74 rfl ?_
    refine zz_iload C 6 ddM_feed_76 rfl ?_
    obtain ⟨q2, hq2, h⟩ := bindN h
    refine zz_callS0 (As := [.int v1, .int v2, .int v3, .int v4, .int v5, .int v7]) C ddM_feed_78 wd_1282 my_M_byteOf mv_M_byteOf (xM_byteOf hG (d - 1) (by omega) hq2) (by omega) rfl rfl (Nat.le_of_ble_eq_true rfl) ?_
    refine zz_istore (L1 := [(8, .int q2.1), (0, .ref v0), (1, .int v1), (2, .int v2), (3, .int v3), (4, .int v4), (5, .int v5), (7, .int v7)]) C ddM_feed_81 N (by decide) rfl ?_
    refine zz_iload C 0 ddM_feed_83 rfl ?_
    refine zz_if_eq (tgt := 109) C ddM_feed_85 rfl (fun hc => ?_) (fun hc => ?_)
    · replace h := iteT h hc
      refine zz_loc (L1 := [(0, .ref v0), (1, .int v1), (2, .int v2), (3, .int v3), (4, .int v4), (5, .int v5), (7, .int v7)]) [1, 2, 3, 4, 5, 6, 7] rfl ?_
      exact zBM_feed_109 hG C N hD hd hK hr h
    · replace h := iteF h hc
      refine zz_aload_n C 1 ddM_feed_88 rfl rfl ?_
      obtain ⟨h3, h⟩ := gdN h
      obtain ⟨h4, h⟩ := gdN h
      refine zz_getr C ddM_feed_89 fl_M_9 rfl h3 (of_decide_eq_true h4) ?_
      refine zz_aload_n C 1 ddM_feed_92 rfl rfl ?_
      refine zz_geti C ddM_feed_93 fl_M_72 rfl h3 ?_
      refine zz_iload C 0 ddM_feed_96 rfl ?_
      obtain ⟨h5, h⟩ := gdN h
      refine zz_iastore C ddM_feed_98 h5 ?_
      refine zz_aload_n C 1 ddM_feed_99 rfl rfl ?_
      refine zz_dup C ddM_feed_100 rfl ?_
      refine zz_geti C ddM_feed_101 fl_M_72 rfl h3 ?_
      refine zz_iconst (v := 1) C ddM_feed_104 (by decide) ?_
      refine zz_iadd C ddM_feed_105 ?_
      refine zz_puti C ddM_feed_106 fl_M_72 rfl rfl rfl h3 ?_
      refine zz_loc (L1 := [(0, .ref v0), (1, .int v1), (2, .int v2), (3, .int v3), (4, .int v4), (5, .int v5), (7, .int v7)]) [1, 2, 3, 4, 5, 6, 7] rfl ?_
      exact zBM_feed_109 hG C N hD hd hK hr h
set_option maxHeartbeats 2000000 in
theorem zLM_feed_62 {G : GXM} {X : CxM} (hG : GokM G) (C : CoM G X cM_feed "HomeFreedModel") (N : mLM X = 9) {d : Nat} (hD : dpM X = d) (hd : 1 ≤ d) {v0 : Nat} {v1 : Int32} {v2 : Int32} {v3 : Int32} {v4 : Int32} {v5 : Int32} {q : (Int32 × Mem)} : ∀ (f : Nat) (v7 : Int32) (M : Mem), LM_feed_62 f v0 v1 v2 v3 v4 v5 v7 M = some q → (hr : ∀ r : Int32 × Mem, q =  r → EnM G X (some .int) (some (.int r.1)) r.2 0 0) → ZM G X 62 [(0, .ref v0), (1, .int v1), (2, .int v2), (3, .int v3), (4, .int v4), (5, .int v5), (7, .int v7)] [] M 0 0 := by
  intro f
  induction f with
  | zero => intro v7 M h; cases h
  | succ f ih =>
    intro v7 M h hr
    exact zBM_feed_62 hG C N hD hd (K := LM_feed_62 f) (q := q) (fun v7 M h => ih v7 M h hr) hr h
set_option maxHeartbeats 2000000 in
theorem zBM_feed_35 {G : GXM} {X : CxM} (hG : GokM G) (C : CoM G X cM_feed "HomeFreedModel") (N : mLM X = 9) {d : Nat} (hD : dpM X = d) (hd : 1 ≤ d) {v0 : Nat} {v1 : Int32} {v2 : Int32} {v3 : Int32} {v4 : Int32} {v5 : Int32} {K : Nat → Int32 → Int32 → Int32 → Int32 → Int32 → Int32 → Int32 → Mem → Option ((Int32 × Mem))} {q : (Int32 × Mem)} (hK : ∀ (v6 : Int32) (v7 : Int32) (M : Mem), K v0 v1 v2 v3 v4 v5 v6 v7 M = some q → ZM G X 6 [(0, .ref v0), (1, .int v1), (2, .int v2), (3, .int v3), (4, .int v4), (5, .int v5), (6, .int v6), (7, .int v7)] [] M 0 0) (hx0 : ∀ y : Int32 × Mem, q = y → ZM G X 44 [(0, .ref v0), (1, .int v1), (2, .int v2), (3, .int v3), (4, .int v4), (5, .int v5), (6, .int y.1)] [] y.2 0 0) {v7 : Int32} {w0 : Int32} {w1 : Int32} {M : Mem} (h : BM_feed_35 K v0 v1 v2 v3 v4 v5 v7 w0 w1 M = some q) : ZM G X 35 [(0, .ref v0), (1, .int v1), (2, .int v2), (3, .int v3), (4, .int v4), (5, .int v5), (7, .int v7)] [.int w1, .int w0] M 0 0 := by
  unfold BM_feed_35 at h
  refine zz_iadd C ddM_feed_35 ?_
  refine zz_istore (L1 := [(6, .int (w0 + w1)), (0, .ref v0), (1, .int v1), (2, .int v2), (3, .int v3), (4, .int v4), (5, .int v5), (7, .int v7)]) C ddM_feed_36 N (by decide) rfl ?_
  refine zz_iinc (v := v7 + 1) (L1 := [(7, .int (v7 + 1)), (6, .int (w0 + w1)), (0, .ref v0), (1, .int v1), (2, .int v2), (3, .int v3), (4, .int v4), (5, .int v5)]) C 7 ddM_feed_38 rfl rfl N (by decide) rfl ?_
  refine zz_goto (tgt := 6) C ddM_feed_41 rfl ?_
  refine zz_loc (L1 := [(0, .ref v0), (1, .int v1), (2, .int v2), (3, .int v3), (4, .int v4), (5, .int v5), (6, .int (w0 + w1)), (7, .int (v7 + 1))]) [2, 3, 4, 5, 6, 7, 1, 0] rfl ?_
  exact hK _ _ _ h
set_option maxHeartbeats 2000000 in
theorem zBM_feed_6 {G : GXM} {X : CxM} (hG : GokM G) (C : CoM G X cM_feed "HomeFreedModel") (N : mLM X = 9) {d : Nat} (hD : dpM X = d) (hd : 1 ≤ d) {v0 : Nat} {v1 : Int32} {v2 : Int32} {v3 : Int32} {v4 : Int32} {v5 : Int32} {K : Nat → Int32 → Int32 → Int32 → Int32 → Int32 → Int32 → Int32 → Mem → Option ((Int32 × Mem))} {q : (Int32 × Mem)} (hK : ∀ (v6 : Int32) (v7 : Int32) (M : Mem), K v0 v1 v2 v3 v4 v5 v6 v7 M = some q → ZM G X 6 [(0, .ref v0), (1, .int v1), (2, .int v2), (3, .int v3), (4, .int v4), (5, .int v5), (6, .int v6), (7, .int v7)] [] M 0 0) (hx0 : ∀ y : Int32 × Mem, q = y → ZM G X 44 [(0, .ref v0), (1, .int v1), (2, .int v2), (3, .int v3), (4, .int v4), (5, .int v5), (6, .int y.1)] [] y.2 0 0) {v6 : Int32} {v7 : Int32} {M : Mem} (h : BM_feed_6 K v0 v1 v2 v3 v4 v5 v6 v7 M = some q) : ZM G X 6 [(0, .ref v0), (1, .int v1), (2, .int v2), (3, .int v3), (4, .int v4), (5, .int v5), (6, .int v6), (7, .int v7)] [] M 0 0 := by
  unfold BM_feed_6 at h
  refine zz_iload C 7 ddM_feed_6 rfl ?_
  refine zz_bipush (v := 20) C ddM_feed_8 (by decide) ?_
  refine zz_icmp_ge (tgt := 44) C ddM_feed_10 rfl (fun hc => ?_) (fun hc => ?_)
  · replace h := iteT h hc
    refine zz_loc (L1 := [(0, .ref v0), (1, .int v1), (2, .int v2), (3, .int v3), (4, .int v4), (5, .int v5), (6, .int v6)]) [0, 1, 2, 3, 4, 5, 6] rfl ?_
    exact hx0 _ (Option.some.inj h).symm
  · replace h := iteF h hc
    refine zz_iload C 6 ddM_feed_13 rfl ?_
    refine zz_iload_n C 1 ddM_feed_15 rfl rfl ?_
    refine zz_iload_n C 2 ddM_feed_16 rfl rfl ?_
    refine zz_iload_n C 3 ddM_feed_17 rfl rfl ?_
    refine zz_iload C 4 ddM_feed_18 rfl ?_
    refine zz_iload C 5 ddM_feed_20 rfl ?_
    refine zz_iload C 7 ddM_feed_22 rfl ?_
    obtain ⟨q1, hq1, h⟩ := bindN h
    refine zz_callS0 (As := [.int v1, .int v2, .int v3, .int v4, .int v5, .int v7]) C ddM_feed_24 wd_1282 my_M_byteOf mv_M_byteOf (xM_byteOf hG (d - 1) (by omega) hq1) (by omega) rfl rfl (Nat.le_of_ble_eq_true rfl) ?_
    refine zz_if_eq (tgt := 34) C ddM_feed_27 rfl (fun hc => ?_) (fun hc => ?_)
    · replace h := iteT h hc
      refine zz_iconst (v := 0) C ddM_feed_34 (by decide) ?_
      refine zz_loc (L1 := [(0, .ref v0), (1, .int v1), (2, .int v2), (3, .int v3), (4, .int v4), (5, .int v5), (7, .int v7)]) [0, 1, 2, 3, 4, 5, 7] rfl ?_
      exact zBM_feed_35 hG C N hD hd hK hx0 h
    · replace h := iteF h hc
      refine zz_iconst (v := 1) C ddM_feed_30 (by decide) ?_
      refine zz_goto (tgt := 35) C ddM_feed_31 rfl ?_
      refine zz_loc (L1 := [(0, .ref v0), (1, .int v1), (2, .int v2), (3, .int v3), (4, .int v4), (5, .int v5), (7, .int v7)]) [0, 1, 2, 3, 4, 5, 7] rfl ?_
      exact zBM_feed_35 hG C N hD hd hK hx0 h
set_option maxHeartbeats 2000000 in
theorem zLM_feed_6 {G : GXM} {X : CxM} (hG : GokM G) (C : CoM G X cM_feed "HomeFreedModel") (N : mLM X = 9) {d : Nat} (hD : dpM X = d) (hd : 1 ≤ d) {v0 : Nat} {v1 : Int32} {v2 : Int32} {v3 : Int32} {v4 : Int32} {v5 : Int32} {q : (Int32 × Mem)} : ∀ (f : Nat) (v6 : Int32) (v7 : Int32) (M : Mem), LM_feed_6 f v0 v1 v2 v3 v4 v5 v6 v7 M = some q → (hx0 : ∀ y : Int32 × Mem, q = y → ZM G X 44 [(0, .ref v0), (1, .int v1), (2, .int v2), (3, .int v3), (4, .int v4), (5, .int v5), (6, .int y.1)] [] y.2 0 0) → ZM G X 6 [(0, .ref v0), (1, .int v1), (2, .int v2), (3, .int v3), (4, .int v4), (5, .int v5), (6, .int v6), (7, .int v7)] [] M 0 0 := by
  intro f
  induction f with
  | zero => intro v6 v7 M h; cases h
  | succ f ih =>
    intro v6 v7 M h hx0
    exact zBM_feed_6 hG C N hD hd (K := LM_feed_6 f) (q := q) (fun v6 v7 M h => ih v6 v7 M h hx0) hx0 h
set_option maxHeartbeats 2000000 in
theorem xM_feed {G : GXM} {l : Launch} (hG : GokM G) (d : Nat) (hd : 1 ≤ d) {v0 : Nat} {v1 : Int32} {v2 : Int32} {v3 : Int32} {v4 : Int32} {v5 : Int32} {M : Mem} {q : Int32 × Mem} (h : fM_feed v0 v1 v2 v3 v4 v5 M = some q) : ExM G l d 0 0 yM_feed cM_feed 9 (some .int) [.ref v0, .int v1, .int v2, .int v3, .int v4, .int v5] M (some (.int q.1)) q.2 := by
  refine ex_of hG (by decide) (Nat.le_of_ble_eq_true rfl) ?_
  intro X hl C E N hD hn
  show ZM G X 0 [(7, .int v7), (6, .int v6), (0, .ref v0), (1, .int v1), (2, .int v2), (3, .int v3), (4, .int v4), (5, .int v5)] [] M 0 0
  unfold fM_feed at h
  refine zz_iconst (v := 0) C ddM_feed_0 (by decide) ?_
  refine zz_istore (L1 := [(6, .int 0), (0, .ref v0), (1, .int v1), (2, .int v2), (3, .int v3), (4, .int v4), (5, .int v5)]) C ddM_feed_1 N (by decide) rfl ?_
  refine zz_iconst (v := 0) C ddM_feed_3 (by decide) ?_
  refine zz_istore (L1 := [(7, .int 0), (6, .int 0), (0, .ref v0), (1, .int v1), (2, .int v2), (3, .int v3), (4, .int v4), (5, .int v5)]) C ddM_feed_4 N (by decide) rfl ?_
  refine zz_loc (L1 := [(0, .ref v0), (1, .int v1), (2, .int v2), (3, .int v3), (4, .int v4), (5, .int v5), (6, .int 0), (7, .int 0)]) [2, 3, 4, 5, 6, 7, 1, 0] rfl ?_
  obtain ⟨q1, hq1, h⟩ := bindN h
  refine zLM_feed_6 hG C N hD hd 1000000 _ _ _ hq1 ?_
  · intro y2 eq1; subst eq1
    refine zz_aload_n C 0 ddM_feed_44 rfl rfl ?_
    obtain ⟨h3, h⟩ := gdN h
    refine zz_geti C ddM_feed_45 fl_M_72 rfl h3 ?_
    refine zz_iload C 6 ddM_feed_48 rfl ?_
    refine zz_iadd C ddM_feed_50 ?_
    refine zz_sipush (v := 240) C ddM_feed_51 (by decide) ?_
    refine zz_icmp_le (tgt := 59) C ddM_feed_54 rfl (fun hc => ?_) (fun hc => ?_)
    · replace h := iteT h hc
      refine zz_iconst (v := 0) C ddM_feed_59 (by decide) ?_
      refine zz_istore (L1 := [(7, .int 0), (0, .ref v0), (1, .int v1), (2, .int v2), (3, .int v3), (4, .int v4), (5, .int v5), (6, .int y2.1)]) C ddM_feed_60 N (by decide) rfl ?_
      refine zz_loc (L1 := [(0, .ref v0), (1, .int v1), (2, .int v2), (3, .int v3), (4, .int v4), (5, .int v5), (7, .int 0)]) [1, 2, 3, 4, 5, 6, 0] rfl ?_
      obtain ⟨q4, hq4, h⟩ := bindN h
      refine zLM_feed_62 hG C N hD hd 1000000 _ _ hq4 ?_
      · intro r5 eq4; subst eq4
        obtain rfl := Option.some.inj h
        exact E
    · replace h := iteF h hc
      refine zz_iconst (v := (-1)) C ddM_feed_57 (by decide) ?_
      obtain rfl := Option.some.inj h
      exact zz_iret C E ddM_feed_58
theorem ddM_in_0 : decode cM_in 0 = .ok (.iload_n 0, 1) := by decide +kernel
theorem ddM_in_1 : decode cM_in 1 = .ok (.iload_n 1, 1) := by decide +kernel
theorem ddM_in_2 : decode cM_in 2 = .ok (.if_icmp .lt 12, 3) := by decide +kernel
theorem ddM_in_5 : decode cM_in 5 = .ok (.iload_n 0, 1) := by decide +kernel
theorem ddM_in_6 : decode cM_in 6 = .ok (.iload_n 2, 1) := by decide +kernel
theorem ddM_in_7 : decode cM_in 7 = .ok (.if_icmp .gt 7, 3) := by decide +kernel
theorem ddM_in_10 : decode cM_in 10 = .ok (.iconst 1, 1) := by decide +kernel
theorem ddM_in_11 : decode cM_in 11 = .ok (.goto 4, 3) := by decide +kernel
theorem ddM_in_14 : decode cM_in 14 = .ok (.iconst 0, 1) := by decide +kernel
theorem ddM_in_15 : decode cM_in 15 = .ok (.ireturn, 1) := by decide +kernel
set_option maxHeartbeats 2000000 in
theorem zBM_in_15 {G : GXM} {X : CxM} (hG : GokM G) (C : CoM G X cM_in "HomeFreedModel") (N : mLM X = 3) {d : Nat} (hD : dpM X = d) (hd : 0 ≤ d)  {q : Int32 × Mem} (E : EnM G X (some .boolean) (some (.int q.1)) q.2 0 0) {w0 : Int32} {M : Mem} (h : BM_in_15 w0 M = some q) : ZM G X 15 [] [.int w0] M 0 0 := by
  unfold BM_in_15 at h
  obtain ⟨h1, h⟩ := gdN h
  obtain rfl := Option.some.inj h
  exact zz_zret C (of_decide_eq_true h1) E ddM_in_15
set_option maxHeartbeats 2000000 in
theorem zBM_in_14 {G : GXM} {X : CxM} (hG : GokM G) (C : CoM G X cM_in "HomeFreedModel") (N : mLM X = 3) {d : Nat} (hD : dpM X = d) (hd : 0 ≤ d)  {q : Int32 × Mem} (E : EnM G X (some .boolean) (some (.int q.1)) q.2 0 0) {M : Mem} (h : BM_in_14 M = some q) : ZM G X 14 [] [] M 0 0 := by
  unfold BM_in_14 at h
  refine zz_iconst (v := 0) C ddM_in_14 (by decide) ?_
  exact zBM_in_15 hG C N hD hd E h
set_option maxHeartbeats 2000000 in
theorem xM_in {G : GXM} {l : Launch} (hG : GokM G) (d : Nat) (hd : 0 ≤ d) {v0 : Int32} {v1 : Int32} {v2 : Int32} {M : Mem} {q : Int32 × Mem} (h : fM_in v0 v1 v2 M = some q) : ExM G l d 0 0 yM_in cM_in 3 (some .boolean) [.int v0, .int v1, .int v2] M (some (.int q.1)) q.2 := by
  refine ex_of hG (by decide) (Nat.le_of_ble_eq_true rfl) ?_
  intro X hl C E N hD hn
  show ZM G X 0 [(0, .int v0), (1, .int v1), (2, .int v2)] [] M 0 0
  unfold fM_in at h
  refine zz_iload_n C 0 ddM_in_0 rfl rfl ?_
  refine zz_iload_n C 1 ddM_in_1 rfl rfl ?_
  refine zz_icmp_lt (tgt := 14) C ddM_in_2 rfl (fun hc => ?_) (fun hc => ?_)
  · replace h := iteT h hc
    refine zz_loc (L1 := []) [] rfl ?_
    exact zBM_in_14 hG C N hD hd E h
  · replace h := iteF h hc
    refine zz_iload_n C 0 ddM_in_5 rfl rfl ?_
    refine zz_iload_n C 2 ddM_in_6 rfl rfl ?_
    refine zz_icmp_gt (tgt := 14) C ddM_in_7 rfl (fun hc => ?_) (fun hc => ?_)
    · replace h := iteT h hc
      refine zz_loc (L1 := []) [] rfl ?_
      exact zBM_in_14 hG C N hD hd E h
    · replace h := iteF h hc
      refine zz_iconst (v := 1) C ddM_in_10 (by decide) ?_
      refine zz_goto (tgt := 15) C ddM_in_11 rfl ?_
      refine zz_loc (L1 := []) [] rfl ?_
      exact zBM_in_15 hG C N hD hd E h
theorem ddM_end_0 : decode cM_end 0 = .ok (.iload_n 1, 1) := by decide +kernel
theorem ddM_end_1 : decode cM_end 1 = .ok (.iconst 0, 1) := by decide +kernel
theorem ddM_end_2 : decode cM_end 2 = .ok (.aload_n 0, 1) := by decide +kernel
theorem ddM_end_3 : decode cM_end 3 = .ok (.getfield 72, 3) := by decide +kernel
theorem ddM_end_6 : decode cM_end 6 = .ok (.invokestatic 75, 3) := by decide +kernel
theorem ddM_end_9 : decode cM_end 9 = .ok (.ifCond .ne 5, 3) := by decide +kernel
theorem ddM_end_12 : decode cM_end 12 = .ok (.iconst 0, 1) := by decide +kernel
theorem ddM_end_13 : decode cM_end 13 = .ok (.ireturn, 1) := by decide +kernel
theorem ddM_end_14 : decode cM_end 14 = .ok (.aload_n 0, 1) := by decide +kernel
theorem ddM_end_15 : decode cM_end 15 = .ok (.iload_n 1, 1) := by decide +kernel
theorem ddM_end_16 : decode cM_end 16 = .ok (.putfield 72, 3) := by decide +kernel
theorem ddM_end_19 : decode cM_end 19 = .ok (.iconst 1, 1) := by decide +kernel
theorem ddM_end_20 : decode cM_end 20 = .ok (.ireturn, 1) := by decide +kernel
set_option maxHeartbeats 2000000 in
theorem xM_end {G : GXM} {l : Launch} (hG : GokM G) (d : Nat) (hd : 1 ≤ d) {v0 : Nat} {v1 : Int32} {M : Mem} {q : Int32 × Mem} (h : fM_end v0 v1 M = some q) : ExM G l d 0 0 yM_end cM_end 2 (some .boolean) [.ref v0, .int v1] M (some (.int q.1)) q.2 := by
  refine ex_of hG (by decide) (Nat.le_of_ble_eq_true rfl) ?_
  intro X hl C E N hD hn
  show ZM G X 0 [(0, .ref v0), (1, .int v1)] [] M 0 0
  unfold fM_end at h
  refine zz_iload_n C 1 ddM_end_0 rfl rfl ?_
  refine zz_iconst (v := 0) C ddM_end_1 (by decide) ?_
  refine zz_aload_n C 0 ddM_end_2 rfl rfl ?_
  obtain ⟨h1, h⟩ := gdN h
  refine zz_geti C ddM_end_3 fl_M_72 rfl h1 ?_
  obtain ⟨q2, hq2, h⟩ := bindN h
  refine zz_callS0 (As := [.int v1, .int 0, .int (giM M v0 2)]) C ddM_end_6 wd_1289 my_M_in mv_M_in (xM_in hG (d - 1) (by omega) hq2) (by omega) rfl rfl (Nat.le_of_ble_eq_true rfl) ?_
  refine zz_if_ne (tgt := 14) C ddM_end_9 rfl (fun hc => ?_) (fun hc => ?_)
  · replace h := iteF h hc
    refine zz_aload_n C 0 ddM_end_14 rfl rfl ?_
    refine zz_iload_n C 1 ddM_end_15 rfl rfl ?_
    obtain ⟨h3, h⟩ := gdN h
    refine zz_puti C ddM_end_16 fl_M_72 rfl rfl rfl h3 ?_
    refine zz_iconst (v := 1) C ddM_end_19 (by decide) ?_
    obtain rfl := Option.some.inj h
    exact zz_zret C (by decide) E ddM_end_20
  · replace h := iteT h hc
    refine zz_iconst (v := 0) C ddM_end_12 (by decide) ?_
    obtain rfl := Option.some.inj h
    exact zz_zret C (by decide) E ddM_end_13
theorem ddM_usual_0 : decode cM_usual 0 = .ok (.iload_n 0, 1) := by decide +kernel
theorem ddM_usual_1 : decode cM_usual 1 = .ok (.bipush 99, 2) := by decide +kernel
theorem ddM_usual_3 : decode cM_usual 3 = .ok (.if_icmp .ne 5, 3) := by decide +kernel
theorem ddM_usual_6 : decode cM_usual 6 = .ok (.iconst 1, 1) := by decide +kernel
theorem ddM_usual_7 : decode cM_usual 7 = .ok (.ireturn, 1) := by decide +kernel
theorem ddM_usual_8 : decode cM_usual 8 = .ok (.iload_n 1, 1) := by decide +kernel
theorem ddM_usual_9 : decode cM_usual 9 = .ok (.ifCond .ne 7, 3) := by decide +kernel
theorem ddM_usual_12 : decode cM_usual 12 = .ok (.iconst 2, 1) := by decide +kernel
theorem ddM_usual_13 : decode cM_usual 13 = .ok (.goto 34, 3) := by decide +kernel
theorem ddM_usual_16 : decode cM_usual 16 = .ok (.iload_n 1, 1) := by decide +kernel
theorem ddM_usual_17 : decode cM_usual 17 = .ok (.iconst 1, 1) := by decide +kernel
theorem ddM_usual_18 : decode cM_usual 18 = .ok (.if_icmp .ne 8, 3) := by decide +kernel
theorem ddM_usual_21 : decode cM_usual 21 = .ok (.bipush 6, 2) := by decide +kernel
theorem ddM_usual_23 : decode cM_usual 23 = .ok (.goto 24, 3) := by decide +kernel
theorem ddM_usual_26 : decode cM_usual 26 = .ok (.iload_n 1, 1) := by decide +kernel
theorem ddM_usual_27 : decode cM_usual 27 = .ok (.iconst 2, 1) := by decide +kernel
theorem ddM_usual_28 : decode cM_usual 28 = .ok (.if_icmp .ne 8, 3) := by decide +kernel
theorem ddM_usual_31 : decode cM_usual 31 = .ok (.bipush 16, 2) := by decide +kernel
theorem ddM_usual_33 : decode cM_usual 33 = .ok (.goto 14, 3) := by decide +kernel
theorem ddM_usual_36 : decode cM_usual 36 = .ok (.iload_n 1, 1) := by decide +kernel
theorem ddM_usual_37 : decode cM_usual 37 = .ok (.iconst 3, 1) := by decide +kernel
theorem ddM_usual_38 : decode cM_usual 38 = .ok (.if_icmp .ne 7, 3) := by decide +kernel
theorem ddM_usual_41 : decode cM_usual 41 = .ok (.iconst 3, 1) := by decide +kernel
theorem ddM_usual_42 : decode cM_usual 42 = .ok (.goto 5, 3) := by decide +kernel
theorem ddM_usual_45 : decode cM_usual 45 = .ok (.bipush 8, 2) := by decide +kernel
theorem ddM_usual_47 : decode cM_usual 47 = .ok (.ireturn, 1) := by decide +kernel
set_option maxHeartbeats 2000000 in
theorem zBM_usual_47 {G : GXM} {X : CxM} (hG : GokM G) (C : CoM G X cM_usual "HomeFreedModel") (N : mLM X = 2) {d : Nat} (hD : dpM X = d) (hd : 0 ≤ d)  {q : Int32 × Mem} (E : EnM G X (some .int) (some (.int q.1)) q.2 0 0) {w0 : Int32} {M : Mem} (h : BM_usual_47 w0 M = some q) : ZM G X 47 [] [.int w0] M 0 0 := by
  unfold BM_usual_47 at h
  obtain rfl := Option.some.inj h
  exact zz_iret C E ddM_usual_47
set_option maxHeartbeats 2000000 in
theorem xM_usual {G : GXM} {l : Launch} (hG : GokM G) (d : Nat) (hd : 0 ≤ d) {v0 : Int32} {v1 : Int32} {M : Mem} {q : Int32 × Mem} (h : fM_usual v0 v1 M = some q) : ExM G l d 0 0 yM_usual cM_usual 2 (some .int) [.int v0, .int v1] M (some (.int q.1)) q.2 := by
  refine ex_of hG (by decide) (Nat.le_of_ble_eq_true rfl) ?_
  intro X hl C E N hD hn
  show ZM G X 0 [(0, .int v0), (1, .int v1)] [] M 0 0
  unfold fM_usual at h
  refine zz_iload_n C 0 ddM_usual_0 rfl rfl ?_
  refine zz_bipush (v := 99) C ddM_usual_1 (by decide) ?_
  refine zz_icmp_ne (tgt := 8) C ddM_usual_3 rfl (fun hc => ?_) (fun hc => ?_)
  · replace h := iteF h hc
    refine zz_iload_n C 1 ddM_usual_8 rfl rfl ?_
    refine zz_if_ne (tgt := 16) C ddM_usual_9 rfl (fun hc => ?_) (fun hc => ?_)
    · replace h := iteF h hc
      refine zz_iload_n C 1 ddM_usual_16 rfl rfl ?_
      refine zz_iconst (v := 1) C ddM_usual_17 (by decide) ?_
      refine zz_icmp_ne (tgt := 26) C ddM_usual_18 rfl (fun hc => ?_) (fun hc => ?_)
      · replace h := iteF h hc
        refine zz_iload_n C 1 ddM_usual_26 rfl rfl ?_
        refine zz_iconst (v := 2) C ddM_usual_27 (by decide) ?_
        refine zz_icmp_ne (tgt := 36) C ddM_usual_28 rfl (fun hc => ?_) (fun hc => ?_)
        · replace h := iteF h hc
          refine zz_iload_n C 1 ddM_usual_36 rfl rfl ?_
          refine zz_iconst (v := 3) C ddM_usual_37 (by decide) ?_
          refine zz_icmp_ne (tgt := 45) C ddM_usual_38 rfl (fun hc => ?_) (fun hc => ?_)
          · replace h := iteF h hc
            refine zz_bipush (v := 8) C ddM_usual_45 (by decide) ?_
            refine zz_loc (L1 := []) [] rfl ?_
            exact zBM_usual_47 hG C N hD hd E h
          · replace h := iteT h hc
            refine zz_iconst (v := 3) C ddM_usual_41 (by decide) ?_
            refine zz_goto (tgt := 47) C ddM_usual_42 rfl ?_
            refine zz_loc (L1 := []) [] rfl ?_
            exact zBM_usual_47 hG C N hD hd E h
        · replace h := iteT h hc
          refine zz_bipush (v := 16) C ddM_usual_31 (by decide) ?_
          refine zz_goto (tgt := 47) C ddM_usual_33 rfl ?_
          refine zz_loc (L1 := []) [] rfl ?_
          exact zBM_usual_47 hG C N hD hd E h
      · replace h := iteT h hc
        refine zz_bipush (v := 6) C ddM_usual_21 (by decide) ?_
        refine zz_goto (tgt := 47) C ddM_usual_23 rfl ?_
        refine zz_loc (L1 := []) [] rfl ?_
        exact zBM_usual_47 hG C N hD hd E h
    · replace h := iteT h hc
      refine zz_iconst (v := 2) C ddM_usual_12 (by decide) ?_
      refine zz_goto (tgt := 47) C ddM_usual_13 rfl ?_
      refine zz_loc (L1 := []) [] rfl ?_
      exact zBM_usual_47 hG C N hD hd E h
  · replace h := iteT h hc
    refine zz_iconst (v := 1) C ddM_usual_6 (by decide) ?_
    obtain rfl := Option.some.inj h
    exact zz_iret C E ddM_usual_7
theorem ddM_here_0 : decode cM_here 0 = .ok (.aload_n 0, 1) := by decide +kernel
theorem ddM_here_1 : decode cM_here 1 = .ok (.getfield 79, 3) := by decide +kernel
theorem ddM_here_4 : decode cM_here 4 = .ok (.aload_n 0, 1) := by decide +kernel
theorem ddM_here_5 : decode cM_here 5 = .ok (.getfield 72, 3) := by decide +kernel
theorem ddM_here_8 : decode cM_here 8 = .ok (.if_icmp .ge 15, 3) := by decide +kernel
theorem ddM_here_11 : decode cM_here 11 = .ok (.aload_n 0, 1) := by decide +kernel
theorem ddM_here_12 : decode cM_here 12 = .ok (.getfield 9, 3) := by decide +kernel
theorem ddM_here_15 : decode cM_here 15 = .ok (.aload_n 0, 1) := by decide +kernel
theorem ddM_here_16 : decode cM_here 16 = .ok (.getfield 79, 3) := by decide +kernel
theorem ddM_here_19 : decode cM_here 19 = .ok (.iaload, 1) := by decide +kernel
theorem ddM_here_20 : decode cM_here 20 = .ok (.goto 4, 3) := by decide +kernel
theorem ddM_here_23 : decode cM_here 23 = .ok (.iconst (-1), 1) := by decide +kernel
theorem ddM_here_24 : decode cM_here 24 = .ok (.ireturn, 1) := by decide +kernel
set_option maxHeartbeats 2000000 in
theorem zBM_here_24 {G : GXM} {X : CxM} (hG : GokM G) (C : CoM G X cM_here "HomeFreedModel") (N : mLM X = 1) {d : Nat} (hD : dpM X = d) (hd : 0 ≤ d)  {q : Int32 × Mem} (E : EnM G X (some .int) (some (.int q.1)) q.2 0 0) {w0 : Int32} {M : Mem} (h : BM_here_24 w0 M = some q) : ZM G X 24 [] [.int w0] M 0 0 := by
  unfold BM_here_24 at h
  obtain rfl := Option.some.inj h
  exact zz_iret C E ddM_here_24
set_option maxHeartbeats 2000000 in
theorem xM_here {G : GXM} {l : Launch} (hG : GokM G) (d : Nat) (hd : 0 ≤ d) {v0 : Nat} {M : Mem} {q : Int32 × Mem} (h : fM_here v0 M = some q) : ExM G l d 0 0 yM_here cM_here 1 (some .int) [.ref v0] M (some (.int q.1)) q.2 := by
  refine ex_of hG (by decide) (Nat.le_of_ble_eq_true rfl) ?_
  intro X hl C E N hD hn
  show ZM G X 0 [(0, .ref v0)] [] M 0 0
  unfold fM_here at h
  refine zz_aload_n C 0 ddM_here_0 rfl rfl ?_
  obtain ⟨h1, h⟩ := gdN h
  refine zz_geti C ddM_here_1 fl_M_79 rfl h1 ?_
  refine zz_aload_n C 0 ddM_here_4 rfl rfl ?_
  refine zz_geti C ddM_here_5 fl_M_72 rfl h1 ?_
  refine zz_icmp_ge (tgt := 23) C ddM_here_8 rfl (fun hc => ?_) (fun hc => ?_)
  · replace h := iteT h hc
    refine zz_iconst (v := (-1)) C ddM_here_23 (by decide) ?_
    refine zz_loc (L1 := []) [] rfl ?_
    exact zBM_here_24 hG C N hD hd E h
  · replace h := iteF h hc
    refine zz_aload_n C 0 ddM_here_11 rfl rfl ?_
    obtain ⟨h2, h⟩ := gdN h
    refine zz_getr C ddM_here_12 fl_M_9 rfl h1 (of_decide_eq_true h2) ?_
    refine zz_aload_n C 0 ddM_here_15 rfl rfl ?_
    refine zz_geti C ddM_here_16 fl_M_79 rfl h1 ?_
    obtain ⟨h3, h⟩ := gdN h
    refine zz_iaload C ddM_here_19 h3 ?_
    refine zz_goto (tgt := 24) C ddM_here_20 rfl ?_
    refine zz_loc (L1 := []) [] rfl ?_
    exact zBM_here_24 hG C N hD hd E h
