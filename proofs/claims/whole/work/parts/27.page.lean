def yA_page : MethodName := ⟨"HomeFreed", "page", "(II)I"⟩
abbrev cA_page : ByteArray := prog_1_method_10_code
theorem my_A_page : MyM yA_page cA_page 3 (some .int) 2 := ⟨wd_1, wd_1094, ⟨by decide +kernel, by decide +kernel, by decide +kernel⟩, by decide⟩
theorem mv_A_page : MvM yA_page := ⟨wd_1092, wd_1093⟩
theorem fl_A_162 : FlM "HomeFreed" 162 1 1 9 true := ⟨_, rfl, rfl, by decide, rfl, wd_169⟩
def BA_page_21 (M : Mem) : Option (Int32 × Mem) :=
  none
def fA_page (v0 : Nat) (v1 : Int32) (v2 : Int32) (M : Mem) : Option (Int32 × Mem) :=
  gd (obM M v0 10 15) <| gd (decide (grM M v0 7 ≠ 0)) <| gd (obM M (grM M v0 7) 1 9) <| (fH_isPage (grM M v0 7) v1 M).bind fun q3 => if q3.1 = 0 then (BA_page_21  q3.2) else (if v2 < 0 then (BA_page_21  q3.2) else (if v2 ≤ 6 then (if v2 = 0 then (gd (obM q3.2 v0 10 15) <| gd (decide (grM q3.2 v0 7 ≠ 0)) <| gd (obM q3.2 (grM q3.2 v0 7) 1 9) <| (fH_stateOf (grM q3.2 v0 7) v1 q3.2).bind fun q7 => some (q7.1, q7.2)) else if v2 = 1 then (gd (obM q3.2 v0 10 15) <| gd (decide (grM q3.2 v0 7 ≠ 0)) <| gd (obM q3.2 (grM q3.2 v0 7) 1 9) <| gd (decide (grM q3.2 (grM q3.2 v0 7) 2 ≠ 0)) <| gd (rdI q3.2 (grM q3.2 (grM q3.2 v0 7) 2) v1) <| some (giM q3.2 (grM q3.2 (grM q3.2 v0 7) 2) (Int32.toNatClampNeg v1), q3.2)) else if v2 = 2 then (gd (obM q3.2 v0 10 15) <| gd (decide (grM q3.2 v0 7 ≠ 0)) <| gd (obM q3.2 (grM q3.2 v0 7) 1 9) <| gd (decide (grM q3.2 (grM q3.2 v0 7) 1 ≠ 0)) <| gd (rdI q3.2 (grM q3.2 (grM q3.2 v0 7) 1) v1) <| some (giM q3.2 (grM q3.2 (grM q3.2 v0 7) 1) (Int32.toNatClampNeg v1), q3.2)) else if v2 = 3 then (gd (obM q3.2 v0 10 15) <| gd (decide (grM q3.2 v0 7 ≠ 0)) <| gd (obM q3.2 (grM q3.2 v0 7) 1 9) <| (fH_usedOf (grM q3.2 v0 7) v1 q3.2).bind fun q21 => some (q21.1, q21.2)) else (gd (obM q3.2 v0 10 15) <| gd (decide (grM q3.2 v0 7 ≠ 0)) <| gd (obM q3.2 (grM q3.2 v0 7) 1 9) <| (fH_lengthOf (grM q3.2 v0 7) v1 (v2 - 4) q3.2).bind fun q25 => some (q25.1, q25.2))) else (BA_page_21  q3.2)))
theorem ddA_page_0 : decode cA_page 0 = .ok (.aload_n 0, 1) := by decide +kernel
theorem ddA_page_1 : decode cA_page 1 = .ok (.getfield 55, 3) := by decide +kernel
theorem ddA_page_4 : decode cA_page 4 = .ok (.iload_n 1, 1) := by decide +kernel
theorem ddA_page_5 : decode cA_page 5 = .ok (.invokevirtual 146, 3) := by decide +kernel
theorem ddA_page_8 : decode cA_page 8 = .ok (.ifCond .eq 13, 3) := by decide +kernel
theorem ddA_page_11 : decode cA_page 11 = .ok (.iload_n 2, 1) := by decide +kernel
theorem ddA_page_12 : decode cA_page 12 = .ok (.ifCond .lt 9, 3) := by decide +kernel
theorem ddA_page_15 : decode cA_page 15 = .ok (.iload_n 2, 1) := by decide +kernel
theorem ddA_page_16 : decode cA_page 16 = .ok (.bipush 6, 2) := by decide +kernel
theorem ddA_page_18 : decode cA_page 18 = .ok (.if_icmp .le 13, 3) := by decide +kernel
theorem ddA_page_31 : decode cA_page 31 = .ok (.iload_n 2, 1) := by decide +kernel
theorem ddA_page_32 : decode cA_page 32 = .ok (.tableswitch 70 0 3 #[32, 41, 51, 61], 32) := by decide +kernel
theorem ddA_page_64 : decode cA_page 64 = .ok (.aload_n 0, 1) := by decide +kernel
theorem ddA_page_65 : decode cA_page 65 = .ok (.getfield 55, 3) := by decide +kernel
theorem ddA_page_68 : decode cA_page 68 = .ok (.iload_n 1, 1) := by decide +kernel
theorem ddA_page_69 : decode cA_page 69 = .ok (.invokevirtual 156, 3) := by decide +kernel
theorem ddA_page_72 : decode cA_page 72 = .ok (.ireturn, 1) := by decide +kernel
theorem ddA_page_73 : decode cA_page 73 = .ok (.aload_n 0, 1) := by decide +kernel
theorem ddA_page_74 : decode cA_page 74 = .ok (.getfield 55, 3) := by decide +kernel
theorem ddA_page_77 : decode cA_page 77 = .ok (.getfield 159, 3) := by decide +kernel
theorem ddA_page_80 : decode cA_page 80 = .ok (.iload_n 1, 1) := by decide +kernel
theorem ddA_page_81 : decode cA_page 81 = .ok (.iaload, 1) := by decide +kernel
theorem ddA_page_82 : decode cA_page 82 = .ok (.ireturn, 1) := by decide +kernel
theorem ddA_page_83 : decode cA_page 83 = .ok (.aload_n 0, 1) := by decide +kernel
theorem ddA_page_84 : decode cA_page 84 = .ok (.getfield 55, 3) := by decide +kernel
theorem ddA_page_87 : decode cA_page 87 = .ok (.getfield 162, 3) := by decide +kernel
theorem ddA_page_90 : decode cA_page 90 = .ok (.iload_n 1, 1) := by decide +kernel
theorem ddA_page_91 : decode cA_page 91 = .ok (.iaload, 1) := by decide +kernel
theorem ddA_page_92 : decode cA_page 92 = .ok (.ireturn, 1) := by decide +kernel
theorem ddA_page_93 : decode cA_page 93 = .ok (.aload_n 0, 1) := by decide +kernel
theorem ddA_page_94 : decode cA_page 94 = .ok (.getfield 55, 3) := by decide +kernel
theorem ddA_page_97 : decode cA_page 97 = .ok (.iload_n 1, 1) := by decide +kernel
theorem ddA_page_98 : decode cA_page 98 = .ok (.invokevirtual 165, 3) := by decide +kernel
theorem ddA_page_101 : decode cA_page 101 = .ok (.ireturn, 1) := by decide +kernel
theorem ddA_page_102 : decode cA_page 102 = .ok (.aload_n 0, 1) := by decide +kernel
theorem ddA_page_103 : decode cA_page 103 = .ok (.getfield 55, 3) := by decide +kernel
theorem ddA_page_106 : decode cA_page 106 = .ok (.iload_n 1, 1) := by decide +kernel
theorem ddA_page_107 : decode cA_page 107 = .ok (.iload_n 2, 1) := by decide +kernel
theorem ddA_page_108 : decode cA_page 108 = .ok (.iconst 4, 1) := by decide +kernel
theorem ddA_page_109 : decode cA_page 109 = .ok (.isub, 1) := by decide +kernel
theorem ddA_page_110 : decode cA_page 110 = .ok (.invokevirtual 168, 3) := by decide +kernel
theorem ddA_page_113 : decode cA_page 113 = .ok (.ireturn, 1) := by decide +kernel
theorem ddA_page_21 : decode cA_page 21 = .ok (.new 149, 3) := by decide +kernel
theorem ddA_page_24 : decode cA_page 24 = .ok (.dup, 1) := by decide +kernel
theorem ddA_page_25 : decode cA_page 25 = .ok (.ldc 151, 2) := by decide +kernel
theorem ddA_page_27 : decode cA_page 27 = .ok (.invokespecial 153, 3) := by decide +kernel
theorem ddA_page_30 : decode cA_page 30 = .ok (.athrow, 1) := by decide +kernel
set_option maxHeartbeats 2000000 in
theorem zBA_page_21 {G : GXM} {X : CxM} (hG : GokM G) (C : CoM G X cA_page "HomeFreed") (N : mLM X = 3) {d : Nat} (hD : dpM X = d) (hd : 1 ≤ d)  {q : Int32 × Mem} (E : EnM G X (some .int) (some (.int q.1)) q.2 0 0) {M : Mem} (h : BA_page_21 M = some q) : ZM G X 21 [] [] M 0 0 := by
  unfold BA_page_21 at h
  cases h
set_option maxHeartbeats 2000000 in
theorem xA_page {G : GXM} {l : Launch} (hG : GokM G) (d : Nat) (hd : 1 ≤ d) {v0 : Nat} {v1 : Int32} {v2 : Int32} {M : Mem} {q : Int32 × Mem} (h : fA_page v0 v1 v2 M = some q) : ExM G l d 0 0 yA_page cA_page 3 (some .int) [.ref v0, .int v1, .int v2] M (some (.int q.1)) q.2 := by
  refine ex_of hG (by decide +kernel) (Nat.le_of_ble_eq_true rfl) ?_
  intro X hl C E N hD hn
  show ZM G X 0 [(0, .ref v0), (1, .int v1), (2, .int v2)] [] M 0 0
  unfold fA_page at h
  refine zz_aload_n C 0 ddA_page_0 rfl rfl ?_
  obtain ⟨h1, h⟩ := gdN h
  obtain ⟨h2, h⟩ := gdN h
  refine zz_getr C ddA_page_1 fl_A_55 rfl h1 (of_decide_eq_true h2) ?_
  refine zz_iload_n C 1 ddA_page_4 rfl rfl ?_
  obtain ⟨h4, h⟩ := gdN h
  obtain ⟨q3, hq3, h⟩ := bindN h
  refine zz_callV0 (As := [.int v1]) C ddA_page_5 wd_582 my_H_isPage mv_H_isPage ⟨_, rfl, rfl⟩ (xH_isPage hG (d - 1) (by omega) hq3) (by omega) h4 rfl rfl (Nat.le_of_ble_eq_true rfl) ?_
  refine zz_if_eq (tgt := 21) C ddA_page_8 rfl (fun hc => ?_) (fun hc => ?_)
  · replace h := iteT h hc
    refine zz_loc (L1 := []) [] rfl ?_
    exact zBA_page_21 hG C N hD hd E h
  · replace h := iteF h hc
    refine zz_iload_n C 2 ddA_page_11 rfl rfl ?_
    refine zz_if_lt (tgt := 21) C ddA_page_12 rfl (fun hc => ?_) (fun hc => ?_)
    · replace h := iteT h hc
      refine zz_loc (L1 := []) [] rfl ?_
      exact zBA_page_21 hG C N hD hd E h
    · replace h := iteF h hc
      refine zz_iload_n C 2 ddA_page_15 rfl rfl ?_
      refine zz_bipush (v := 6) C ddA_page_16 (by decide) ?_
      refine zz_icmp_le (tgt := 31) C ddA_page_18 rfl (fun hc => ?_) (fun hc => ?_)
      · replace h := iteT h hc
        refine zz_iload_n C 2 ddA_page_31 rfl rfl ?_
        by_cases hs32_0 : v2 = 0
        · replace h := iteT h hs32_0
          rw [hs32_0]
          refine zz_tableIn (tgt := 64) C ddA_page_32 (by decide) (by decide) rfl rfl ?_
          refine zz_aload_n C 0 ddA_page_64 rfl rfl ?_
          obtain ⟨h5, h⟩ := gdN h
          obtain ⟨h6, h⟩ := gdN h
          refine zz_getr C ddA_page_65 fl_A_55 rfl h5 (of_decide_eq_true h6) ?_
          refine zz_iload_n C 1 ddA_page_68 rfl rfl ?_
          obtain ⟨h8, h⟩ := gdN h
          obtain ⟨q7, hq7, h⟩ := bindN h
          refine zz_callV0 (As := [.int v1]) C ddA_page_69 wd_1160 my_H_stateOf mv_H_stateOf ⟨_, rfl, rfl⟩ (xH_stateOf hG (d - 1) (by omega) hq7) (by omega) h8 rfl rfl (Nat.le_of_ble_eq_true rfl) ?_
          obtain rfl := Option.some.inj h
          exact zz_iret C E ddA_page_72
        replace h := iteF h hs32_0
        by_cases hs32_1 : v2 = 1
        · replace h := iteT h hs32_1
          rw [hs32_1]
          refine zz_tableIn (tgt := 73) C ddA_page_32 (by decide) (by decide) rfl rfl ?_
          refine zz_aload_n C 0 ddA_page_73 rfl rfl ?_
          obtain ⟨h9, h⟩ := gdN h
          obtain ⟨h10, h⟩ := gdN h
          refine zz_getr C ddA_page_74 fl_A_55 rfl h9 (of_decide_eq_true h10) ?_
          obtain ⟨h11, h⟩ := gdN h
          obtain ⟨h12, h⟩ := gdN h
          refine zz_getr C ddA_page_77 fl_A_159 rfl h11 (of_decide_eq_true h12) ?_
          refine zz_iload_n C 1 ddA_page_80 rfl rfl ?_
          obtain ⟨h13, h⟩ := gdN h
          refine zz_iaload C ddA_page_81 h13 ?_
          obtain rfl := Option.some.inj h
          exact zz_iret C E ddA_page_82
        replace h := iteF h hs32_1
        by_cases hs32_2 : v2 = 2
        · replace h := iteT h hs32_2
          rw [hs32_2]
          refine zz_tableIn (tgt := 83) C ddA_page_32 (by decide) (by decide) rfl rfl ?_
          refine zz_aload_n C 0 ddA_page_83 rfl rfl ?_
          obtain ⟨h14, h⟩ := gdN h
          obtain ⟨h15, h⟩ := gdN h
          refine zz_getr C ddA_page_84 fl_A_55 rfl h14 (of_decide_eq_true h15) ?_
          obtain ⟨h16, h⟩ := gdN h
          obtain ⟨h17, h⟩ := gdN h
          refine zz_getr C ddA_page_87 fl_A_162 rfl h16 (of_decide_eq_true h17) ?_
          refine zz_iload_n C 1 ddA_page_90 rfl rfl ?_
          obtain ⟨h18, h⟩ := gdN h
          refine zz_iaload C ddA_page_91 h18 ?_
          obtain rfl := Option.some.inj h
          exact zz_iret C E ddA_page_92
        replace h := iteF h hs32_2
        by_cases hs32_3 : v2 = 3
        · replace h := iteT h hs32_3
          rw [hs32_3]
          refine zz_tableIn (tgt := 93) C ddA_page_32 (by decide) (by decide) rfl rfl ?_
          refine zz_aload_n C 0 ddA_page_93 rfl rfl ?_
          obtain ⟨h19, h⟩ := gdN h
          obtain ⟨h20, h⟩ := gdN h
          refine zz_getr C ddA_page_94 fl_A_55 rfl h19 (of_decide_eq_true h20) ?_
          refine zz_iload_n C 1 ddA_page_97 rfl rfl ?_
          obtain ⟨h22, h⟩ := gdN h
          obtain ⟨q21, hq21, h⟩ := bindN h
          refine zz_callV0 (As := [.int v1]) C ddA_page_98 wd_972 my_H_usedOf mv_H_usedOf ⟨_, rfl, rfl⟩ (xH_usedOf hG (d - 1) (by omega) hq21) (by omega) h22 rfl rfl (Nat.le_of_ble_eq_true rfl) ?_
          obtain rfl := Option.some.inj h
          exact zz_iret C E ddA_page_101
        replace h := iteF h hs32_3
        have ths32_0 := lv_neT (a := 0) hs32_0 (by decide)
        have ths32_1 := lv_neT (a := 1) hs32_1 (by decide)
        have ths32_2 := lv_neT (a := 2) hs32_2 (by decide)
        have ths32_3 := lv_neT (a := 3) hs32_3 (by decide)
        refine zz_tableOut (tgt := 102) C ddA_page_32 (by omega) rfl ?_
        refine zz_aload_n C 0 ddA_page_102 rfl rfl ?_
        obtain ⟨h23, h⟩ := gdN h
        obtain ⟨h24, h⟩ := gdN h
        refine zz_getr C ddA_page_103 fl_A_55 rfl h23 (of_decide_eq_true h24) ?_
        refine zz_iload_n C 1 ddA_page_106 rfl rfl ?_
        refine zz_iload_n C 2 ddA_page_107 rfl rfl ?_
        refine zz_iconst (v := 4) C ddA_page_108 (by decide) ?_
        refine zz_isub C ddA_page_109 ?_
        obtain ⟨h26, h⟩ := gdN h
        obtain ⟨q25, hq25, h⟩ := bindN h
        refine zz_callV0 (As := [.int v1, .int (v2 - 4)]) C ddA_page_110 wd_1161 my_H_lengthOf mv_H_lengthOf ⟨_, rfl, rfl⟩ (xH_lengthOf hG (d - 1) (by omega) hq25) (by omega) h26 rfl rfl (Nat.le_of_ble_eq_true rfl) ?_
        obtain rfl := Option.some.inj h
        exact zz_iret C E ddA_page_113
      · replace h := iteF h hc
        refine zz_loc (L1 := []) [] rfl ?_
        exact zBA_page_21 hG C N hD hd E h
/-! where HomeFreed.page throws -/
def TxM (G : GXM) : Prop := (∃ sa : Nat, vk_R "HomeFreed" 151 "no such page, or nothing of the kind" sa G.1) ∧ vx_Zq Bundle.tN "UNASSIGNED_STACK" Bundle.steD (fun q => szM G ≤ q) G.1 G.1.heap ∧ vx_Zq Bundle.tN "SUPPRESSED_SENTINEL" Bundle.listD (fun q => szM G ≤ q) G.1 G.1.heap
def nsPl : List Nat := [21, 1117, 1126, 1128, 1131, 1133, 1118, 1119, 31, 32, 1120, 1125, 1129, 1149, 1107, 1150, 1109, 1151, 1111, 1121, 1123, 1113, 1145, 1146, 1148, 1113, 1136, 1137, 1138, 1139, 1099, 1139, 1140, 1141, 1142, 1101, 1142, 1143, 1144, 1145, 1103, 1135, 1096, 1097, 1104, 1105, 1106, 1108, 1110, 1112, 1116, 1115, 1114]
theorem ns_pl : (nsW "HomeFreed" 153).filter vx_no = nsPl.filterMap (fun i => tables_1[i]?) := by decide +kernel
theorem ns_kind : ∀ w ∈ (nsW "HomeFreed" 153).filter vx_no, goodWord w = true ∨ w = .castable nsN nsN ∨ w = .declares (Bundle.initS nsR) ∨ w = .declares (Bundle.initS nsE) ∨ w = .declares (Bundle.initS Bundle.tN) := by decide +kernel
theorem ns_good : ∀ w ∈ Cond.classLink "HomeFreed" 149 nsN :: Cond.initialized nsN :: (nsW "HomeFreed" 153).filter vx_no, vx_ot w = true := by decide +kernel
theorem ns_decl {x : MethodName} {s U : State} {a0 a1 : Array Value} (hW : s.WarmedH U.vm) (hZ : (Cond.declares x).before a0 s = true) : (Cond.declares x).before a1 U = true :=
  va_tabs rfl (rfl : (s.setVm U.vm).vm = U.vm) (by rw [Cond.declares_setVm hW.alike]; exact hZ)
theorem ns_words {G : GXM} {s : State} {args : Array Value} (hG : GokM G) (hWm : G.1.WarmedH s.vm) : ∀ w ∈ (nsW "HomeFreed" 153).filter vx_no, w.before args s = true := by
  intro w hw
  have hl : w ∈ lw_tbl := by
    rw [ns_pl] at hw
    obtain ⟨i, -, hi⟩ := List.mem_filterMap.mp hw
    exact List.mem_append_right _ (List.mem_of_getElem? hi)
  obtain ⟨a0, h⟩ := hG.1
  rcases ns_kind w hw with g | rfl | rfl | rfl | rfl
  · exact wdM hG hWm hl g
  · exact va_Nw.use rfl (va_Nw.warmC hWm (va_Nw.of rfl (h _ hl)))
  · exact ns_decl hWm (h _ hl)
  · exact ns_decl hWm (h _ hl)
  · exact ns_decl hWm (h _ hl)
def tA_page (v0 : Nat) (v1 v2 : Int32) (M : Mem) : Option Mem :=
  gd (obM M v0 10 15) <| gd (decide (grM M v0 7 ≠ 0)) <| gd (obM M (grM M v0 7) 1 9) <| (fH_isPage (grM M v0 7) v1 M).bind fun q3 => if q3.1 = 0 then (some q3.2) else (if v2 < 0 then (some q3.2) else (if v2 ≤ 6 then none else some q3.2))
def QnM : Array Value → State → Outcome → State → Prop := fun _ _ _ _ => False
def XcM (G : GXM) (M1 : Mem) : String → State → State → Prop := fun E _ t => E = nsN ∧ WbM G M1 t.heap []
theorem WbM_more {G : GXM} {M : Mem} {H H1 : Heap} {locs : List Loc} (hf : G.2.2.2.2 = false) (h : WbM G M H locs) (hs : H.size ≤ H1.size) (hq : ∀ q : Nat, q < H.size → H1[q]? = H[q]?) : WbM G M H1 [] := by
  obtain ⟨hP, hD, hS, hE, hn, hz⟩ := h
  refine ⟨va_P.kept hP (fun k q hk => hq _ (hP k q hk).lt), hD, ⟨Nat.le_trans hS.1 hs, fun q h1 h2 => by rw [hq q (Nat.lt_of_lt_of_le h1 hS.1)]; exact hS.2.1 q h1 h2, fun _ q => by cases q⟩, hE, hn, fun g => by rw [hf] at g; cases g⟩
set_option maxHeartbeats 2000000 in
theorem xA_pageT {G : GXM} {l : Launch} (hG : GokM G) (hf : G.2.2.2.2 = false) (hT : TxM G) (hl : l.stackTraces = false) (d : Nat) (hd : 6 ≤ d) {v0 : Nat} {v1 v2 : Int32} {M M1 : Mem} (h : tA_page v0 v1 v2 M = some M1) :
    vx_Met l yA_page [.code yA_page cA_page 3 (some .int)] (rmM d 1 6) (PcM G [.ref v0, .int v1, .int v2] M) QnM (XcM G M1) 1 6 (fun q => szM G ≤ q) := by
  refine vx_ofW (cc := cA_page) (maxL := 3) (ret := some .int) (by decide +kernel) rfl ?_
  intro p e s m args below meth c s₁ B hml htab hv
  obtain ⟨rfl, hW0, hWm⟩ := hv
  have hown : s.vm.findClass "HomeFreed" = some m.cls := findClass_of_methodNamed B.named
  obtain ⟨X, hX⟩ : ∃ X : CxM, X = (p, l, e, rmM d 1 6, s, m, (([.ref v0, .int v1, .int v2] : List Value).map (rvM G.2.2.2.1)).toArray, below, meth, c, 3, vx_MQ below QnM (XcM G M1) ((([.ref v0, .int v1, .int v2] : List Value).map (rvM G.2.2.2.1)).toArray) s 1 6 (fun q => szM G ≤ q), d) := ⟨_, rfl⟩
  have C : CoM G X cA_page "HomeFreed" := by rw [hX]; exact ⟨B.exec, B.bytes, hml, hown, B.notSynchronized, hWm, hG, Nat.le_refl _, Nat.le_refl _⟩
  have N : mLM X = 3 := by rw [hX]; rfl
  have hD : dpM X = d := by rw [hX]; rfl
  obtain ⟨⟨sa, hsa⟩, hU, hN⟩ := hT
  have hZ : ZM G X 21 [] [] M1 0 0 := by
    rw [hX]
    intro H locs ls hW1 h1 T hT XX
    have hsz : s.heap.size ≤ H.size := by rw [← hT]; exact (vx_frame XX.same).1
    have hk : ∀ a : Nat, a < G.1.heap.size → ¬ szM G ≤ a → s.heap[a]? = G.1.heap[a]? := hW0.2.2.1.2.1
    refine ns_throw (A := fun q => szM G ≤ q) B.exec B.bytes hl hown (ik := 149) (is := 151) (ic := 153) (wdM hG hWm wd_1095 rfl) (wdM hG hWm wd_24 rfl) (vk_R.warm hWm hsa) (ns_words hG hWm) ns_good
      (vx_Zq.moved hWm.alike (hU.kept hk)) (vx_Zq.moved hWm.alike (hN.kept hk)) ⟨hsz, fun q q1 q2 => ?_, hW1.2.2.1.2.2⟩ (h1.1.trans hml.symm) ddA_page_21 ddA_page_24 ddA_page_25 ddA_page_27 ddA_page_30
      (fun x hx => (htab x hx).elim) ?_ ?_ (Nat.le_refl _) (Nat.le_refl _) B.notSynchronized (fun t ht h2 h3 => ⟨rfl, WbM_more hf hW1 h2 h3⟩) hW1.2.2.1.2.2 (Nat.le_refl _) (Nat.le_refl _) T hT XX
    · have q3 : q < szM G := Nat.lt_of_not_le q2
      rw [hW1.2.2.1.2.1 q q3 q2, hW0.2.2.1.2.1 q q3 q2]
    · show 2 + 3 < d
      omega
    · show 0 + (13 * (2 + 1) + 43) ≤ 64 * d
      omega
  have hent : ZM G X 0 [(0, .ref v0), (1, .int v1), (2, .int v2)] [] M 0 0 := by
    unfold tA_page at h
    clear hX
    refine zz_aload_n C 0 ddA_page_0 rfl rfl ?_
    obtain ⟨h1, h⟩ := gdN h
    obtain ⟨h2, h⟩ := gdN h
    refine zz_getr C ddA_page_1 fl_A_55 rfl h1 (of_decide_eq_true h2) ?_
    refine zz_iload_n C 1 ddA_page_4 rfl rfl ?_
    obtain ⟨h4, h⟩ := gdN h
    obtain ⟨q3, hq3, h⟩ := bindN h
    refine zz_callV0 (As := [.int v1]) C ddA_page_5 wd_582 my_H_isPage mv_H_isPage ⟨_, rfl, rfl⟩ (xH_isPage hG (d - 1) (by omega) hq3) (by omega) h4 rfl rfl (Nat.le_of_ble_eq_true rfl) ?_
    refine zz_if_eq (tgt := 21) C ddA_page_8 rfl (fun hc => ?_) (fun hc => ?_)
    · replace h := iteT h hc
      refine zz_loc (L1 := []) [] rfl ?_
      obtain rfl := Option.some.inj h
      exact hZ
    · replace h := iteF h hc
      refine zz_iload_n C 2 ddA_page_11 rfl rfl ?_
      refine zz_if_lt (tgt := 21) C ddA_page_12 rfl (fun hc => ?_) (fun hc => ?_)
      · replace h := iteT h hc
        refine zz_loc (L1 := []) [] rfl ?_
        obtain rfl := Option.some.inj h
        exact hZ
      · replace h := iteF h hc
        refine zz_iload_n C 2 ddA_page_15 rfl rfl ?_
        refine zz_bipush (v := 6) C ddA_page_16 (by decide) ?_
        refine zz_icmp_le (tgt := 31) C ddA_page_18 rfl (fun hc => ?_) (fun hc => ?_)
        · replace h := iteT h hc
          cases h
        · replace h := iteF h hc
          refine zz_loc (L1 := []) [] rfl ?_
          obtain rfl := Option.some.inj h
          exact hZ
  have hlen : (lg_sl ([.ref v0, .int v1, .int v2] : List Value)).length ≤ 3 := Nat.le_of_ble_eq_true rfl
  rw [lg_entry_eq]
  rw [hX] at hent
  refine hent s.heap [] _ hW0 ?_
  have h2 := lv_entry (([.ref v0, .int v1, .int v2] : List Value).map (rvM G.2.2.2.1)) (n := 3) (by rw [slM_len]; exact hlen)
  rw [lvM_args] at h2
  exact h2
/-! HomeFreedLaw.page: it has a table of its own -/
def yW_page : MethodName := ⟨"HomeFreedLaw", "page", "(LHomeFreed;II[J)I"⟩
abbrev cW_page : ByteArray := method_3_code
def hW_page : List (Nat × Nat × Nat × Nat) := [(0, 10, 13, 13)]
def ExW (G : GXM) (l : Launch) (d mc ms : Nat) (y : MethodName) (cc : ByteArray) (maxL : Nat) (ret : Option FieldType) (hh : List (Nat × Nat × Nat × Nat)) (av : List Value) (M : Mem) (r : Option Value) (M1 : Mem) : Prop :=
  Met l y [.codeWith y cc maxL ret hh] (rmM d mc ms) (PcM G av M) (QcM G r M1) mc ms (fun q => szM G ≤ q)
theorem exW_of {G : GXM} {l : Launch} {d mc ms : Nat} {y : MethodName} {cc : ByteArray} {maxL : Nat} {ret : Option FieldType} {hh : List (Nat × Nat × Nat × Nat)} {av : List Value} {M : Mem} {r : Option Value} {M1 : Mem} (hG : GokM G) (hy : plainName y.cls = true) (hlen : (lg_sl av).length ≤ maxL)
    (body : ∀ X : CxM, X.2.1 = l → CoM G X cc y.cls → EnM G X ret r M1 mc ms → mLM X = maxL → dpM X = d → X.2.2.2.2.2.2.2.2.2.1.exceptionTable.toList = tableOf hh → ZM G X 0 (lv_args 0 av) [] M 0 0) : ExW G l d mc ms y cc maxL ret hh av M r M1 := by
  show Met l y [.codeWith y cc maxL ret hh] (rmM d mc ms) (PcM G av M) (QcM G r M1) mc ms (fun q => szM G ≤ q)
  refine MetFree.of_bodyS (code := cc) (maxLocals := maxL) (ret := ret) hy ?_ ?_
  · intro args s m h hn
    obtain ⟨m9, meth, c, hn9, h1, h2, h3, h4, -, h5, h6, -⟩ := Cond.codeWith_spec (atoms_spec (ws := [.codeWith y cc maxL ret hh]) h _ List.mem_cons_self)
    cases hn.symm.trans hn9
    exact ⟨meth, c, h1, h2, h3, h4, h5, h6⟩
  · intro p e s m args below meth c s₁ B hml hv _
    have hh0 : s₁.heap = s.heap := by rw [B.state]; rfl
    obtain ⟨rfl, hW, hWm⟩ := hv
    have hown : s.vm.findClass y.cls = some m.cls := findClass_of_methodNamed B.named
    have htb : c.exceptionTable.toList = tableOf hh := vx_table (x := y) B (atoms_spec (ws := [.codeWith y cc maxL ret hh]) B.pre _ List.mem_cons_self)
    have h := body (p, l, e, rmM d mc ms, s, m, ((av.map (rvM G.2.2.2.1)).toArray), below, meth, c, maxL, MQ below (QcM G r M1) ((av.map (rvM G.2.2.2.1)).toArray) s mc ms (fun q => szM G ≤ q), d) rfl
      ⟨B.exec, B.bytes, hml, hown, B.notSynchronized, hWm, hG, Nat.le_refl _, Nat.le_refl _⟩ ⟨rfl, B.returns, rfl⟩ rfl rfl htb
    have K : W p l e (rmM d mc ms) s m ((av.map (rvM G.2.2.2.1)).toArray) below meth c s.heap [] 0 0 (MQ below (QcM G r M1) ((av.map (rvM G.2.2.2.1)).toArray) s mc ms (fun q => szM G ≤ q)) (entryFrame m ((av.map (rvM G.2.2.2.1)).toArray) maxL) := by
      rw [lg_entry_eq]
      refine h s.heap [] _ hW ?_
      have h2 := lv_entry (av.map (rvM G.2.2.2.1)) (n := maxL) (by rw [slM_len]; exact hlen)
      rw [lvM_args] at h2
      exact h2
    obtain ⟨t, a1, o, b1, b2, b3⟩ := K s₁ hh0 (Stand.of_body B)
    exact ⟨t, o, a1, b1, b2, b3⟩
theorem ddW_page_0 : decode cW_page 0 = .ok (.aload_n 3, 1) := by decide +kernel
theorem ddW_page_1 : decode cW_page 1 = .ok (.iconst 0, 1) := by decide +kernel
theorem ddW_page_2 : decode cW_page 2 = .ok (.aload_n 0, 1) := by decide +kernel
theorem ddW_page_3 : decode cW_page 3 = .ok (.iload_n 1, 1) := by decide +kernel
theorem ddW_page_4 : decode cW_page 4 = .ok (.iload_n 2, 1) := by decide +kernel
theorem ddW_page_5 : decode cW_page 5 = .ok (.invokevirtual 7, 3) := by decide +kernel
theorem ddW_page_8 : decode cW_page 8 = .ok (.i2l, 1) := by decide +kernel
theorem ddW_page_9 : decode cW_page 9 = .ok (.lastore, 1) := by decide +kernel
theorem ddW_page_10 : decode cW_page 10 = .ok (.goto 7, 3) := by decide +kernel
theorem ddW_page_13 : decode cW_page 13 = .ok (.astore 4, 2) := by decide +kernel
theorem ddW_page_15 : decode cW_page 15 = .ok (.iconst 1, 1) := by decide +kernel
theorem ddW_page_16 : decode cW_page 16 = .ok (.ireturn, 1) := by decide +kernel
theorem ddW_page_17 : decode cW_page 17 = .ok (.iconst 0, 1) := by decide +kernel
theorem ddW_page_18 : decode cW_page 18 = .ok (.ireturn, 1) := by decide +kernel
theorem wdW_7 : Cond.methodLink "HomeFreedLaw" 7 yA_page ∈ lw_tbl := wd_1091
theorem zz_widen {G : GXM} {X : CxM} {pc : Nat} {L : List (Nat × Value)} {st : List Value} {M : Mem} {k n k1 n1 : Nat} (hk : k ≤ k1) (hn : n ≤ n1) (kk : ZM G X pc L st M k1 n1) : ZM G X pc L st M k n := by
  obtain ⟨p, l, e, R, s, m, args, below, meth, c, nL, Q, d⟩ := X
  intro H locs ls hW h T hT XX
  exact kk H locs ls hW h T hT (stand_widen XX hk hn)
theorem xW_pageN {G : GXM} {l : Launch} (hG : GokM G) (d : Nat) (hd : 2 ≤ d) {v0 v3 : Nat} {v1 v2 : Int32} {M : Mem} {q : Int32 × Mem} (ho : obM M v0 10 15 = true) (h : fA_page v0 v1 v2 M = some q) (hw : wrT 102 q.2 v3 0 = true) :
    ExW G l d 1 6 yW_page cW_page 5 (some .int) hW_page [.ref v0, .int v1, .int v2, .ref v3] M (some (.int 0)) (slM q.2 v3 0 (Int32.toInt64 q.1)) := by
  refine exW_of hG (by decide +kernel) (Nat.le_of_ble_eq_true rfl) ?_
  intro X hl C E N hD htb
  show ZM G X 0 [(0, .ref v0), (1, .int v1), (2, .int v2), (3, .ref v3)] [] M 0 0
  refine zz_aload_n C 3 ddW_page_0 rfl rfl ?_
  refine zz_iconst (v := 0) C ddW_page_1 (by decide) ?_
  refine zz_aload_n C 0 ddW_page_2 rfl rfl ?_
  refine zz_iload_n C 1 ddW_page_3 rfl rfl ?_
  refine zz_iload_n C 2 ddW_page_4 rfl rfl ?_
  refine zz_callV0 (As := [.int v1, .int v2]) C ddW_page_5 wdW_7 my_A_page mv_A_page ⟨_, rfl, rfl⟩ (xA_page hG (d - 1) (by omega) h) (by omega) ho rfl rfl (Nat.le_of_ble_eq_true rfl) ?_
  refine zz_i2l C ddW_page_8 ?_
  refine zz_lastore C ddW_page_9 hw ?_
  refine zz_goto (tgt := 17) C ddW_page_10 rfl ?_
  refine zz_iconst (v := 0) C ddW_page_17 (by decide) ?_
  refine zz_widen (k1 := 1) (n1 := 6) (Nat.zero_le _) (Nat.zero_le _) ?_
  exact zz_iret C E ddW_page_18
theorem zzW_catch {G : GXM} {X : CxM} {cc : ByteArray} {own : String} {L : List (Nat × Value)} {M : Mem} {k n : Nat} (C : CoM G X cc own) {i mL pc : Nat} (hd : decode cc pc = .ok (.astore i, 2)) (hm : mLM X = mL) (hn : i < mL) (kk : ZM G X (pc + 2) [] [] M k n) {q : Nat} {H : Heap} {locs : List Loc} {ls : Array Slot} (hW : WbM G M H locs) (h : lv_has ls mL (L.map (fun q => (q.1, rvM G.2.2.2.1 q.2)))) :
    match X with | (p, l, e, R, s, m, args, below, meth, c, nL, Q, _) => W p l e R s m args below meth c H locs k n Q (F0 m pc ls [.ref q]) := by
  obtain ⟨p, l, e, R, s, m, args, below, meth, c, nL, Q, d⟩ := X
  have hm2 : nL = mL := hm
  subst hm2
  exact lv_astore C.1 C.2.1 hd h hn rfl (fun ls1 h1 => kk H locs ls1 hW ⟨h1.1, h1.2.1, fun _ z => by cases z⟩)
set_option maxHeartbeats 2000000 in
theorem xW_pageT {G : GXM} {l : Launch} (hG : GokM G) (hf : G.2.2.2.2 = false) (hT : TxM G) (hl : l.stackTraces = false) (d : Nat) (hd : 7 ≤ d) {v0 v3 : Nat} {v1 v2 : Int32} {M M1 : Mem} (ho : obM M v0 10 15 = true) (h : tA_page v0 v1 v2 M = some M1) :
    ExW G l d 1 6 yW_page cW_page 5 (some .int) hW_page [.ref v0, .int v1, .int v2, .ref v3] M (some (.int 1)) M1 := by
  refine exW_of hG (by decide +kernel) (Nat.le_of_ble_eq_true rfl) ?_
  intro X hlX C E N hD htb
  show ZM G X 0 [(0, .ref v0), (1, .int v1), (2, .int v2), (3, .ref v3)] [] M 0 0
  refine zz_aload_n C 3 ddW_page_0 rfl rfl ?_
  refine zz_iconst (v := 0) C ddW_page_1 (by decide) ?_
  refine zz_aload_n C 0 ddW_page_2 rfl rfl ?_
  refine zz_iload_n C 1 ddW_page_3 rfl rfl ?_
  refine zz_iload_n C 2 ddW_page_4 rfl rfl ?_
  have hend : ZM G X 15 [] [] M1 1 6 := by
    refine zz_iconst (v := 1) C ddW_page_15 (by decide) ?_
    exact zz_iret C E ddW_page_16
  have hM := xA_pageT hG hf hT hl (d - 1) (by omega) h
  have hcat := fun (q : Nat) (H : Heap) (locs : List Loc) (ls : Array Slot) => zzW_catch (L := [(0, .ref v0), (1, .int v1), (2, .int v2), (3, .ref v3)]) (k := 1) (n := 6) (M := M1) C ddW_page_13 N (by decide) hend (q := q) (H := H) (locs := locs) (ls := ls)
  have hRm := EnM_R E
  obtain ⟨p, l', e, R, s, m, args, below, meth, c, nL, Q, d'⟩ := X
  have hl2 : l' = l := hlX
  subst hl2
  have hN2 : nL = 5 := N
  subst hN2
  have hD2 : d' = d := hD
  subst hD2
  have hR2 : R = rmM d' 1 6 := hRm
  subst hR2
  intro H locs ls hW hh
  have hG := C.2.2.2.2.2.2.1
  have hWm := C.2.2.2.2.2.1
  obtain ⟨o1, o2⟩ := obM_p ho
  have he := wsM_at (G := G) o1
  have hq : clsM[10]? = some (clsM[10]?.get rfl) := rfl
  rw [ceM_ob o2 (by decide)] at he
  obtain ⟨r0, g1, cell, g2, g3, g4, -⟩ := hW.1 (v0 - 1) _ he
  have hK := (kM hG hWm).1 10 _ hq
  have hrun := vx_runV (g := F0 m 5 ls (([.int v2, .int v1, .ref v0, .int 0, .ref v3] : List Value).map (rvM G.2.2.2.1))) (As := ([.int v1, .int v2] : List Value).map (rvM G.2.2.2.1)) (rest := ([.int 0, .ref v3] : List Value).map (rvM G.2.2.2.1)) (b := G.2.2.2.1 v0) (C := "HomeFreed") (Ts := []) (nL := 5) ⟨C.1, C.2.1, C.2.2.1, C.2.2.2.1, fun _ q => by cases q⟩ hM (n := 2) (index := 7)
    ⟨hb_cb C my_A_page wdW_7 (show d' - 1 + 1 ≤ d' by omega), wdM hG hWm mv_A_page.1 rfl, wdM hG hWm mv_A_page.2 rfl⟩ (H := H) ⟨PcM_blind, ⟨cell, g2, by rw [g4]; rfl, by rw [g3]; exact hK.2.1⟩, fun U hU hUW => ⟨rfl, by rw [hU]; exact WbM_nil hW, State.WarmedH.trans hWm hUW⟩⟩ rfl rfl hh.1
    rfl (lv_room (by rw [catM]; exact Nat.le_of_ble_eq_true rfl)) ddW_page_5 (e := e) (below := below) (meth := meth) (locs := locs) (cells := 0) (slots := 0) ⟨Nat.le_refl _, Nat.le_refl _⟩
  intro T hT2 XX
  rcases hrun T hT2 XX with ⟨v, st₀, t, T', L, h0, X', hL, e1, e2, hbad, st⟩ | ⟨q, st₀, t, T', L, E9, ce, h0, X', hL, e1, e2, ⟨rfl, hb⟩, hce, hcv, hcl, st⟩
  · exact hbad.elim
  · have hb2 : WbM G M1 T'.heap (locs ++ L) := by
      rw [e1]
      refine ⟨hb.1, hb.2.1, ⟨hb.2.2.1.1, hb.2.2.1.2.1, fun q hq => ?_⟩, hb.2.2.2⟩
      rcases List.mem_append.mp hq with h | h
      · exact hW.2.2.1.2.2 q h
      · exact hL q h
    obtain ⟨a0, hw0⟩ := hG.1
    have hkk := vx_catch (H := T'.heap) (q := q) (ls := ls) (rest := ([.int 0, .ref v3] : List Value).map (rvM G.2.2.2.1)) (pc := 5) (own := "HomeFreedLaw") (name := nsN) (E := nsN) (ce := ce) C.2.2.2.1 [] ⟨0, 10, 13, 13⟩ [] htb (fun z hz => by cases hz) rfl (by decide) (wdM hG hWm wd_1090 rfl)
      (va_Nw.use rfl (va_Nw.warmC hWm (va_Nw.of rfl (hw0 _ wd_1097)))) (by rw [e1]; exact hce) hcv hcl (hcat q T'.heap (locs ++ L) ls hb2 hh)
    obtain ⟨t2, a2, b2⟩ := hkk T' rfl X'
    exact ⟨t2, st.trans a2, b2⟩
def fW_page (v0 : Nat) (v1 v2 : Int32) (v3 : Nat) (M : Mem) : Option (Int32 × Mem) :=
  gd (obM M v0 10 15) <| match tA_page v0 v1 v2 M with
  | some M1 => some (1, M1)
  | none => (fA_page v0 v1 v2 M).bind fun q => gd (wrT 102 q.2 v3 0) <| some (0, slM q.2 v3 0 (Int32.toInt64 q.1))
theorem xW_page {G : GXM} {l : Launch} (hG : GokM G) (hf : G.2.2.2.2 = false) (hT : TxM G) (hl : l.stackTraces = false) (d : Nat) (hd : 7 ≤ d) {v0 v3 : Nat} {v1 v2 : Int32} {M : Mem} {q : Int32 × Mem} (h : fW_page v0 v1 v2 v3 M = some q) :
    ExW G l d 1 6 yW_page cW_page 5 (some .int) hW_page [.ref v0, .int v1, .int v2, .ref v3] M (some (.int q.1)) q.2 := by
  unfold fW_page at h
  obtain ⟨h1, h⟩ := gdN h
  cases ht : tA_page v0 v1 v2 M with
  | some M1 =>
    rw [ht] at h
    obtain rfl := Option.some.inj h
    exact xW_pageT hG hf hT hl d hd h1 ht
  | none =>
    rw [ht] at h
    obtain ⟨q2, hq2, h⟩ := bindN h
    obtain ⟨h3, h⟩ := gdN h
    obtain rfl := Option.some.inj h
    exact xW_pageN hG d (by omega) h1 hq2 h3
theorem zzW_call {G : GXM} {X : CxM} {cc : ByteArray} {own : String} {pc : Nat} {L : List (Nat × Value)} {st : List Value} {M : Mem} {k n : Nat} (C : CoM G X cc own) {d1 mc ms np ix maxL : Nat} {y : MethodName} {cy : ByteArray} {ret : Option FieldType} {hh : List (Nat × Nat × Nat × Nat)} {stk As : List Value} {r : Option Value} {M1 : Mem} (hd : decode cc pc = .ok (.invokestatic ix, 3)) (hl : Cond.methodLink own ix y ∈ lw_tbl)
    (hy : Cond.initialized y.cls ∈ lw_tbl ∧ Cond.codeWith y cy maxL ret hh ∈ lw_tbl ∧ (y.cls ≠ "java/lang/invoke/MethodHandle" ∧ y.cls ≠ "java/lang/invoke/VarHandle" ∧ (parseMethodDescriptor y.desc).map (fun d => d.parameters.length) = some np) ∧ maxL ≤ 45) (hv : Cond.static y ∈ lw_tbl) (hM : ExW G X.2.1 d1 mc ms y cy maxL ret hh As M r M1) (hdp : d1 + 1 ≤ dpM X)
    (hs : stk = As.reverse ++ st) (hn : As.length = np) (hc : (st.map fun v => v.category).sum ≤ 8) (hk : k + mc ≤ X.2.2.2.1.cells ∧ n + ms ≤ X.2.2.2.1.slots) (kk : ZM G X (pc + 3) L (r.toList ++ st) M1 (k + mc) (n + ms)) : ZM G X pc L stk M k n := by
  obtain ⟨p, l, e, R, s, m, args, below, meth, c, nL, Q, d⟩ := X
  intro H locs ls hW h
  have hG := C.2.2.2.2.2.2.1
  have hWm := C.2.2.2.2.2.1
  have hfr := C.2.2.2.2.2.2.2.1
  have hlo := C.2.2.2.2.2.2.2.2
  have hdp' : d1 + 1 ≤ d := hdp
  have hrun := vx_runSW (args := args) (g := F0 m pc ls (stk.map (rvM G.2.2.2.1))) (As := As.map (rvM G.2.2.2.1)) (rest := st.map (rvM G.2.2.2.1)) (Ts := []) (nL := nL) ⟨C.1, C.2.1, C.2.2.1, C.2.2.2.1, fun _ q => by cases q⟩ hM (n := np) (index := ix) (bytes := cy) (maxL := maxL) (ret := ret) (hh := hh)
    ⟨⟨rfl, rfl, Nat.le_trans hdp' hfr, by show 8 + (maxL + 11) + 64 * d1 ≤ R.locals; have := hy.2.2.2; omega, (fun w hw a' U hU => by rw [List.mem_singleton.mp hw]; exact word_at hU (good_of_word rfl) (wdM (args := args) hG hWm hy.2.1 rfl)), List.mem_cons_self⟩, wdM hG hWm hy.2.1 rfl, wdM hG hWm hy.1 rfl, ⟨hy.2.2.1.1, hy.2.2.1.2.1⟩,
      (fun sig h9 => by have h2 := hy.2.2.1.2.2; rw [h9] at h2; exact (Option.some.inj h2).symm), wdM hG hWm hl rfl, wdM hG hWm hv rfl⟩ (H := H) ⟨PcM_blind, fun U hU hUW => ⟨rfl, by rw [hU]; exact WbM_nil hW, State.WarmedH.trans hWm hUW⟩⟩ rfl (by simpa using hn) h.1
    (by subst hs; simp [rvM]) (lv_room (by rw [catM]; exact hc)) hd (e := e) (below := below) (meth := meth) (locs := locs) (cells := k) (slots := n) hk
  refine hb_call hrun hW (fun H1 locs1 hW1 => ?_)
  have h2 := kk H1 locs1 ls hW1 h
  have e2 : (r.toList ++ st).map (rvM G.2.2.2.1) = (r.map (rvM G.2.2.2.1)).toList ++ st.map (rvM G.2.2.2.1) := by cases r <;> rfl
  rw [e2] at h2
  exact h2
theorem my_W_page : Cond.initialized yW_page.cls ∈ lw_tbl ∧ Cond.codeWith yW_page cW_page 5 (some .int) hW_page ∈ lw_tbl ∧ (yW_page.cls ≠ "java/lang/invoke/MethodHandle" ∧ yW_page.cls ≠ "java/lang/invoke/VarHandle" ∧ (parseMethodDescriptor yW_page.desc).map (fun d => d.parameters.length) = some 4) ∧ 5 ≤ 45 := ⟨wd_0, wd_1089, ⟨by decide +kernel, by decide +kernel, by decide +kernel⟩, by decide⟩
theorem mv_W_page : Cond.static yW_page ∈ lw_tbl := wd_1088
