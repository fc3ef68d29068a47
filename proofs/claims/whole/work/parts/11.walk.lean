theorem ddP_forget_0 : decode cP_forget 0 = .ok (.aload_n 0, 1) := by decide +kernel
theorem ddP_forget_1 : decode cP_forget 1 = .ok (.iconst 0, 1) := by decide +kernel
theorem ddP_forget_2 : decode cP_forget 2 = .ok (.putfield 24, 3) := by decide +kernel
theorem ddP_forget_5 : decode cP_forget 5 = .ok (.return_, 1) := by decide +kernel
set_option maxHeartbeats 2000000 in
theorem xP_forget {G : GXM} {l : Launch} (hG : GokM G) (d : Nat) (hd : 0 ≤ d) {v0 : Nat} {M : Mem} {q : Mem} (h : fP_forget v0 M = some q) : ExM G l d 0 0 yP_forget cP_forget 1 none [.ref v0] M none q := by
  refine ex_of hG (by decide +kernel) (Nat.le_of_ble_eq_true rfl) ?_
  intro X hl C E N hD hn
  show ZM G X 0 [(0, .ref v0)] [] M 0 0
  unfold fP_forget at h
  refine zz_aload_n C 0 ddP_forget_0 rfl rfl ?_
  refine zz_iconst (v := 0) C ddP_forget_1 (by decide) ?_
  obtain ⟨h1, h⟩ := gdN h
  refine zz_puti C ddP_forget_2 fl_P_24 rfl rfl rfl h1 ?_
  obtain rfl := Option.some.inj h
  exact zz_vret C E ddP_forget_5
theorem ddA_beginArena_0 : decode cA_beginArena 0 = .ok (.aload_n 0, 1) := by decide +kernel
theorem ddA_beginArena_1 : decode cA_beginArena 1 = .ok (.getfield 32, 3) := by decide +kernel
theorem ddA_beginArena_4 : decode cA_beginArena 4 = .ok (.aload_n 0, 1) := by decide +kernel
theorem ddA_beginArena_5 : decode cA_beginArena 5 = .ok (.getfield 21, 3) := by decide +kernel
theorem ddA_beginArena_8 : decode cA_beginArena 8 = .ok (.invokevirtual 105, 3) := by decide +kernel
theorem ddA_beginArena_11 : decode cA_beginArena 11 = .ok (.iconst (-1), 1) := by decide +kernel
theorem ddA_beginArena_12 : decode cA_beginArena 12 = .ok (.if_icmp .eq 5, 3) := by decide +kernel
theorem ddA_beginArena_15 : decode cA_beginArena 15 = .ok (.iconst (-1), 1) := by decide +kernel
theorem ddA_beginArena_16 : decode cA_beginArena 16 = .ok (.ireturn, 1) := by decide +kernel
theorem ddA_beginArena_17 : decode cA_beginArena 17 = .ok (.aload_n 0, 1) := by decide +kernel
theorem ddA_beginArena_18 : decode cA_beginArena 18 = .ok (.getfield 28, 3) := by decide +kernel
theorem ddA_beginArena_21 : decode cA_beginArena 21 = .ok (.aload_n 0, 1) := by decide +kernel
theorem ddA_beginArena_22 : decode cA_beginArena 22 = .ok (.getfield 32, 3) := by decide +kernel
theorem ddA_beginArena_25 : decode cA_beginArena 25 = .ok (.invokevirtual 117, 3) := by decide +kernel
theorem ddA_beginArena_28 : decode cA_beginArena 28 = .ok (.aload_n 0, 1) := by decide +kernel
theorem ddA_beginArena_29 : decode cA_beginArena 29 = .ok (.getfield 55, 3) := by decide +kernel
theorem ddA_beginArena_32 : decode cA_beginArena 32 = .ok (.invokevirtual 120, 3) := by decide +kernel
theorem ddA_beginArena_35 : decode cA_beginArena 35 = .ok (.aload_n 0, 1) := by decide +kernel
theorem ddA_beginArena_36 : decode cA_beginArena 36 = .ok (.getfield 62, 3) := by decide +kernel
theorem ddA_beginArena_39 : decode cA_beginArena 39 = .ok (.invokevirtual 123, 3) := by decide +kernel
theorem ddA_beginArena_42 : decode cA_beginArena 42 = .ok (.aload_n 0, 1) := by decide +kernel
theorem ddA_beginArena_43 : decode cA_beginArena 43 = .ok (.iconst 0, 1) := by decide +kernel
theorem ddA_beginArena_44 : decode cA_beginArena 44 = .ok (.putfield 69, 3) := by decide +kernel
theorem ddA_beginArena_47 : decode cA_beginArena 47 = .ok (.aload_n 0, 1) := by decide +kernel
theorem ddA_beginArena_48 : decode cA_beginArena 48 = .ok (.getfield 12, 3) := by decide +kernel
theorem ddA_beginArena_51 : decode cA_beginArena 51 = .ok (.iconst 0, 1) := by decide +kernel
theorem ddA_beginArena_52 : decode cA_beginArena 52 = .ok (.putfield 98, 3) := by decide +kernel
theorem ddA_beginArena_55 : decode cA_beginArena 55 = .ok (.aload_n 0, 1) := by decide +kernel
theorem ddA_beginArena_56 : decode cA_beginArena 56 = .ok (.getfield 28, 3) := by decide +kernel
theorem ddA_beginArena_59 : decode cA_beginArena 59 = .ok (.getfield 126, 3) := by decide +kernel
theorem ddA_beginArena_62 : decode cA_beginArena 62 = .ok (.ireturn, 1) := by decide +kernel
set_option maxHeartbeats 2000000 in
theorem xA_beginArena {G : GXM} {l : Launch} (hG : GokM G) (d : Nat) (hd : 6 ≤ d) {v0 : Nat} {M : Mem} {q : Int32 × Mem} (h : fA_beginArena v0 M = some q) : ExM G l d 0 0 yA_beginArena cA_beginArena 1 (some .int) [.ref v0] M (some (.int q.1)) q.2 := by
  refine ex_of hG (by decide +kernel) (Nat.le_of_ble_eq_true rfl) ?_
  intro X hl C E N hD hn
  show ZM G X 0 [(0, .ref v0)] [] M 0 0
  unfold fA_beginArena at h
  refine zz_aload_n C 0 ddA_beginArena_0 rfl rfl ?_
  obtain ⟨h1, h⟩ := gdN h
  obtain ⟨h2, h⟩ := gdN h
  refine zz_getr C ddA_beginArena_1 fl_A_32 rfl h1 (of_decide_eq_true h2) ?_
  refine zz_aload_n C 0 ddA_beginArena_4 rfl rfl ?_
  obtain ⟨h3, h⟩ := gdN h
  refine zz_getr C ddA_beginArena_5 fl_A_21 rfl h1 (of_decide_eq_true h3) ?_
  obtain ⟨h5, h⟩ := gdN h
  obtain ⟨q4, hq4, h⟩ := bindN h
  refine zz_callV0 (As := [.ref (grM M v0 1)]) C ddA_beginArena_8 wd_354 my_U_readFrom mv_U_readFrom ⟨_, rfl, rfl⟩ (xU_readFrom hG (d - 1) (by omega) hq4) (by omega) h5 rfl rfl (Nat.le_of_ble_eq_true rfl) ?_
  refine zz_iconst (v := (-1)) C ddA_beginArena_11 (by decide) ?_
  refine zz_icmp_eq (tgt := 17) C ddA_beginArena_12 rfl (fun hc => ?_) (fun hc => ?_)
  · replace h := iteT h hc
    refine zz_aload_n C 0 ddA_beginArena_17 rfl rfl ?_
    obtain ⟨h6, h⟩ := gdN h
    obtain ⟨h7, h⟩ := gdN h
    refine zz_getr C ddA_beginArena_18 fl_A_28 rfl h6 (of_decide_eq_true h7) ?_
    refine zz_aload_n C 0 ddA_beginArena_21 rfl rfl ?_
    obtain ⟨h8, h⟩ := gdN h
    refine zz_getr C ddA_beginArena_22 fl_A_32 rfl h6 (of_decide_eq_true h8) ?_
    obtain ⟨h10, h⟩ := gdN h
    obtain ⟨q9, hq9, h⟩ := bindN h
    refine zz_callV0 (As := [.ref (grM q4.2 v0 3)]) C ddA_beginArena_25 wd_537 my_U_copyFrom mv_U_copyFrom ⟨_, rfl, rfl⟩ (xU_copyFrom hG (d - 1) (by omega) hq9) (by omega) h10 rfl rfl (Nat.le_of_ble_eq_true rfl) ?_
    refine zz_aload_n C 0 ddA_beginArena_28 rfl rfl ?_
    obtain ⟨h11, h⟩ := gdN h
    obtain ⟨h12, h⟩ := gdN h
    refine zz_getr C ddA_beginArena_29 fl_A_55 rfl h11 (of_decide_eq_true h12) ?_
    obtain ⟨h14, h⟩ := gdN h
    obtain ⟨q13, hq13, h⟩ := bindN h
    refine zz_callV0 (As := []) C ddA_beginArena_32 wd_541 my_H_makeNew mv_H_makeNew ⟨_, rfl, rfl⟩ (xH_makeNew hG (d - 1) (by omega) hq13) (by omega) h14 rfl rfl (Nat.le_of_ble_eq_true rfl) ?_
    refine zz_aload_n C 0 ddA_beginArena_35 rfl rfl ?_
    obtain ⟨h15, h⟩ := gdN h
    obtain ⟨h16, h⟩ := gdN h
    refine zz_getr C ddA_beginArena_36 fl_A_62 rfl h15 (of_decide_eq_true h16) ?_
    obtain ⟨h18, h⟩ := gdN h
    obtain ⟨q17, hq17, h⟩ := bindN h
    refine zz_callV0 (As := []) C ddA_beginArena_39 wd_549 my_P_forget mv_P_forget ⟨_, rfl, rfl⟩ (xP_forget hG (d - 1) (by omega) hq17) (by omega) h18 rfl rfl (Nat.le_of_ble_eq_true rfl) ?_
    refine zz_aload_n C 0 ddA_beginArena_42 rfl rfl ?_
    refine zz_iconst (v := 0) C ddA_beginArena_43 (by decide) ?_
    obtain ⟨h19, h⟩ := gdN h
    refine zz_puti C ddA_beginArena_44 fl_A_69 rfl rfl rfl h19 ?_
    refine zz_aload_n C 0 ddA_beginArena_47 rfl rfl ?_
    obtain ⟨h20, h⟩ := gdN h
    refine zz_getr C ddA_beginArena_48 fl_A_12 rfl h19 (of_decide_eq_true h20) ?_
    refine zz_iconst (v := 0) C ddA_beginArena_51 (by decide) ?_
    obtain ⟨h21, h⟩ := gdN h
    refine zz_puti C ddA_beginArena_52 fl_A_98 rfl rfl rfl h21 ?_
    refine zz_aload_n C 0 ddA_beginArena_55 rfl rfl ?_
    obtain ⟨h22, h⟩ := gdN h
    refine zz_getr C ddA_beginArena_56 fl_A_28 rfl h19 (of_decide_eq_true h22) ?_
    obtain ⟨h23, h⟩ := gdN h
    refine zz_geti C ddA_beginArena_59 fl_A_126 rfl h23 ?_
    obtain rfl := Option.some.inj h
    exact zz_iret C E ddA_beginArena_62
  · replace h := iteF h hc
    refine zz_iconst (v := (-1)) C ddA_beginArena_15 (by decide) ?_
    obtain rfl := Option.some.inj h
    exact zz_iret C E ddA_beginArena_16
theorem ddS_copyFrom_0 : decode cS_copyFrom 0 = .ok (.aload_n 1, 1) := by decide +kernel
theorem ddS_copyFrom_1 : decode cS_copyFrom 1 = .ok (.getfield 9, 3) := by decide +kernel
theorem ddS_copyFrom_4 : decode cS_copyFrom 4 = .ok (.iconst 0, 1) := by decide +kernel
theorem ddS_copyFrom_5 : decode cS_copyFrom 5 = .ok (.aload_n 0, 1) := by decide +kernel
theorem ddS_copyFrom_6 : decode cS_copyFrom 6 = .ok (.getfield 9, 3) := by decide +kernel
theorem ddS_copyFrom_9 : decode cS_copyFrom 9 = .ok (.iconst 0, 1) := by decide +kernel
theorem ddS_copyFrom_10 : decode cS_copyFrom 10 = .ok (.bipush 24, 2) := by decide +kernel
theorem ddS_copyFrom_12 : decode cS_copyFrom 12 = .ok (.invokestatic 25, 3) := by decide +kernel
theorem ddS_copyFrom_15 : decode cS_copyFrom 15 = .ok (.aload_n 1, 1) := by decide +kernel
theorem ddS_copyFrom_16 : decode cS_copyFrom 16 = .ok (.getfield 15, 3) := by decide +kernel
theorem ddS_copyFrom_19 : decode cS_copyFrom 19 = .ok (.iconst 0, 1) := by decide +kernel
theorem ddS_copyFrom_20 : decode cS_copyFrom 20 = .ok (.aload_n 0, 1) := by decide +kernel
theorem ddS_copyFrom_21 : decode cS_copyFrom 21 = .ok (.getfield 15, 3) := by decide +kernel
theorem ddS_copyFrom_24 : decode cS_copyFrom 24 = .ok (.iconst 0, 1) := by decide +kernel
theorem ddS_copyFrom_25 : decode cS_copyFrom 25 = .ok (.bipush 24, 2) := by decide +kernel
theorem ddS_copyFrom_27 : decode cS_copyFrom 27 = .ok (.invokestatic 25, 3) := by decide +kernel
theorem ddS_copyFrom_30 : decode cS_copyFrom 30 = .ok (.aload_n 1, 1) := by decide +kernel
theorem ddS_copyFrom_31 : decode cS_copyFrom 31 = .ok (.getfield 18, 3) := by decide +kernel
theorem ddS_copyFrom_34 : decode cS_copyFrom 34 = .ok (.iconst 0, 1) := by decide +kernel
theorem ddS_copyFrom_35 : decode cS_copyFrom 35 = .ok (.aload_n 0, 1) := by decide +kernel
theorem ddS_copyFrom_36 : decode cS_copyFrom 36 = .ok (.getfield 18, 3) := by decide +kernel
theorem ddS_copyFrom_39 : decode cS_copyFrom 39 = .ok (.iconst 0, 1) := by decide +kernel
theorem ddS_copyFrom_40 : decode cS_copyFrom 40 = .ok (.bipush 24, 2) := by decide +kernel
theorem ddS_copyFrom_42 : decode cS_copyFrom 42 = .ok (.invokestatic 25, 3) := by decide +kernel
theorem ddS_copyFrom_45 : decode cS_copyFrom 45 = .ok (.aload_n 0, 1) := by decide +kernel
theorem ddS_copyFrom_46 : decode cS_copyFrom 46 = .ok (.aload_n 1, 1) := by decide +kernel
theorem ddS_copyFrom_47 : decode cS_copyFrom 47 = .ok (.getfield 21, 3) := by decide +kernel
theorem ddS_copyFrom_50 : decode cS_copyFrom 50 = .ok (.putfield 21, 3) := by decide +kernel
theorem ddS_copyFrom_53 : decode cS_copyFrom 53 = .ok (.return_, 1) := by decide +kernel
set_option maxHeartbeats 2000000 in
theorem xS_copyFrom {G : GXM} {l : Launch} (hG : GokM G) (d : Nat) (hd : 1 ≤ d) {v0 : Nat} {v1 : Nat} {M : Mem} {q : Mem} (h : fS_copyFrom v0 v1 M = some q) : ExM G l d 0 0 yS_copyFrom cS_copyFrom 2 none [.ref v0, .ref v1] M none q := by
  refine ex_of hG (by decide +kernel) (Nat.le_of_ble_eq_true rfl) ?_
  intro X hl C E N hD hn
  show ZM G X 0 [(0, .ref v0), (1, .ref v1)] [] M 0 0
  unfold fS_copyFrom at h
  refine zz_aload_n C 1 ddS_copyFrom_0 rfl rfl ?_
  obtain ⟨h1, h⟩ := gdN h
  obtain ⟨h2, h⟩ := gdN h
  refine zz_getr C ddS_copyFrom_1 fl_S_9 rfl h1 (of_decide_eq_true h2) ?_
  refine zz_iconst (v := 0) C ddS_copyFrom_4 (by decide) ?_
  refine zz_aload_n C 0 ddS_copyFrom_5 rfl rfl ?_
  obtain ⟨h3, h⟩ := gdN h
  obtain ⟨h4, h⟩ := gdN h
  refine zz_getr C ddS_copyFrom_6 fl_S_9 rfl h3 (of_decide_eq_true h4) ?_
  refine zz_iconst (v := 0) C ddS_copyFrom_9 (by decide) ?_
  refine zz_bipush (v := 24) C ddS_copyFrom_10 (by decide) ?_
  obtain ⟨h5, h⟩ := gdN h
  refine zz_copy C ddS_copyFrom_12 wd_561 ⟨wd_362, wd_361, wd_14⟩ h5 (by omega) (Nat.le_of_ble_eq_true rfl) ?_
  refine zz_aload_n C 1 ddS_copyFrom_15 rfl rfl ?_
  obtain ⟨h6, h⟩ := gdN h
  refine zz_getr C ddS_copyFrom_16 fl_S_15 rfl h1 (of_decide_eq_true h6) ?_
  refine zz_iconst (v := 0) C ddS_copyFrom_19 (by decide) ?_
  refine zz_aload_n C 0 ddS_copyFrom_20 rfl rfl ?_
  obtain ⟨h7, h⟩ := gdN h
  refine zz_getr C ddS_copyFrom_21 fl_S_15 rfl h3 (of_decide_eq_true h7) ?_
  refine zz_iconst (v := 0) C ddS_copyFrom_24 (by decide) ?_
  refine zz_bipush (v := 24) C ddS_copyFrom_25 (by decide) ?_
  obtain ⟨h8, h⟩ := gdN h
  refine zz_copy C ddS_copyFrom_27 wd_561 ⟨wd_362, wd_361, wd_14⟩ h8 (by omega) (Nat.le_of_ble_eq_true rfl) ?_
  refine zz_aload_n C 1 ddS_copyFrom_30 rfl rfl ?_
  obtain ⟨h9, h⟩ := gdN h
  refine zz_getr C ddS_copyFrom_31 fl_S_18 rfl h1 (of_decide_eq_true h9) ?_
  refine zz_iconst (v := 0) C ddS_copyFrom_34 (by decide) ?_
  refine zz_aload_n C 0 ddS_copyFrom_35 rfl rfl ?_
  obtain ⟨h10, h⟩ := gdN h
  refine zz_getr C ddS_copyFrom_36 fl_S_18 rfl h3 (of_decide_eq_true h10) ?_
  refine zz_iconst (v := 0) C ddS_copyFrom_39 (by decide) ?_
  refine zz_bipush (v := 24) C ddS_copyFrom_40 (by decide) ?_
  obtain ⟨h11, h⟩ := gdN h
  refine zz_copy C ddS_copyFrom_42 wd_561 ⟨wd_362, wd_361, wd_14⟩ h11 (by omega) (Nat.le_of_ble_eq_true rfl) ?_
  refine zz_aload_n C 0 ddS_copyFrom_45 rfl rfl ?_
  refine zz_aload_n C 1 ddS_copyFrom_46 rfl rfl ?_
  refine zz_geti C ddS_copyFrom_47 fl_S_21 rfl h1 ?_
  refine zz_puti C ddS_copyFrom_50 fl_S_21 rfl rfl rfl h3 ?_
  obtain rfl := Option.some.inj h
  exact zz_vret C E ddS_copyFrom_53
theorem ddA_addScript_0 : decode cA_addScript 0 = .ok (.aload_n 0, 1) := by decide +kernel
theorem ddA_addScript_1 : decode cA_addScript 1 = .ok (.getfield 42, 3) := by decide +kernel
theorem ddA_addScript_4 : decode cA_addScript 4 = .ok (.iconst 4, 1) := by decide +kernel
theorem ddA_addScript_5 : decode cA_addScript 5 = .ok (.if_icmp .ge 18, 3) := by decide +kernel
theorem ddA_addScript_8 : decode cA_addScript 8 = .ok (.aload_n 0, 1) := by decide +kernel
theorem ddA_addScript_9 : decode cA_addScript 9 = .ok (.getfield 46, 3) := by decide +kernel
theorem ddA_addScript_12 : decode cA_addScript 12 = .ok (.aload_n 0, 1) := by decide +kernel
theorem ddA_addScript_13 : decode cA_addScript 13 = .ok (.getfield 21, 3) := by decide +kernel
theorem ddA_addScript_16 : decode cA_addScript 16 = .ok (.invokevirtual 109, 3) := by decide +kernel
theorem ddA_addScript_19 : decode cA_addScript 19 = .ok (.iconst (-1), 1) := by decide +kernel
theorem ddA_addScript_20 : decode cA_addScript 20 = .ok (.if_icmp .eq 5, 3) := by decide +kernel
theorem ddA_addScript_23 : decode cA_addScript 23 = .ok (.iconst (-1), 1) := by decide +kernel
theorem ddA_addScript_24 : decode cA_addScript 24 = .ok (.ireturn, 1) := by decide +kernel
theorem ddA_addScript_25 : decode cA_addScript 25 = .ok (.aload_n 0, 1) := by decide +kernel
theorem ddA_addScript_26 : decode cA_addScript 26 = .ok (.getfield 37, 3) := by decide +kernel
theorem ddA_addScript_29 : decode cA_addScript 29 = .ok (.aload_n 0, 1) := by decide +kernel
theorem ddA_addScript_30 : decode cA_addScript 30 = .ok (.getfield 42, 3) := by decide +kernel
theorem ddA_addScript_33 : decode cA_addScript 33 = .ok (.aaload, 1) := by decide +kernel
theorem ddA_addScript_34 : decode cA_addScript 34 = .ok (.aload_n 0, 1) := by decide +kernel
theorem ddA_addScript_35 : decode cA_addScript 35 = .ok (.getfield 46, 3) := by decide +kernel
theorem ddA_addScript_38 : decode cA_addScript 38 = .ok (.invokevirtual 129, 3) := by decide +kernel
theorem ddA_addScript_41 : decode cA_addScript 41 = .ok (.aload_n 0, 1) := by decide +kernel
theorem ddA_addScript_42 : decode cA_addScript 42 = .ok (.dup, 1) := by decide +kernel
theorem ddA_addScript_43 : decode cA_addScript 43 = .ok (.getfield 42, 3) := by decide +kernel
theorem ddA_addScript_46 : decode cA_addScript 46 = .ok (.iconst 1, 1) := by decide +kernel
theorem ddA_addScript_47 : decode cA_addScript 47 = .ok (.iadd, 1) := by decide +kernel
theorem ddA_addScript_48 : decode cA_addScript 48 = .ok (.putfield 42, 3) := by decide +kernel
theorem ddA_addScript_51 : decode cA_addScript 51 = .ok (.aload_n 0, 1) := by decide +kernel
theorem ddA_addScript_52 : decode cA_addScript 52 = .ok (.getfield 12, 3) := by decide +kernel
theorem ddA_addScript_55 : decode cA_addScript 55 = .ok (.iconst 0, 1) := by decide +kernel
theorem ddA_addScript_56 : decode cA_addScript 56 = .ok (.putfield 98, 3) := by decide +kernel
theorem ddA_addScript_59 : decode cA_addScript 59 = .ok (.aload_n 0, 1) := by decide +kernel
theorem ddA_addScript_60 : decode cA_addScript 60 = .ok (.getfield 42, 3) := by decide +kernel
theorem ddA_addScript_63 : decode cA_addScript 63 = .ok (.iconst 1, 1) := by decide +kernel
theorem ddA_addScript_64 : decode cA_addScript 64 = .ok (.isub, 1) := by decide +kernel
theorem ddA_addScript_65 : decode cA_addScript 65 = .ok (.ireturn, 1) := by decide +kernel
set_option maxHeartbeats 2000000 in
theorem zBA_addScript_23 {G : GXM} {X : CxM} (hG : GokM G) (C : CoM G X cA_addScript "HomeFreed") (N : mLM X = 1) {d : Nat} (hD : dpM X = d) (hd : 6 ≤ d)  {q : Int32 × Mem} (E : EnM G X (some .int) (some (.int q.1)) q.2 0 0) {M : Mem} (h : BA_addScript_23 M = some q) : ZM G X 23 [] [] M 0 0 := by
  unfold BA_addScript_23 at h
  refine zz_iconst (v := (-1)) C ddA_addScript_23 (by decide) ?_
  obtain rfl := Option.some.inj h
  exact zz_iret C E ddA_addScript_24
set_option maxHeartbeats 2000000 in
theorem xA_addScript {G : GXM} {l : Launch} (hG : GokM G) (d : Nat) (hd : 6 ≤ d) {v0 : Nat} {M : Mem} {q : Int32 × Mem} (h : fA_addScript v0 M = some q) : ExM G l d 0 0 yA_addScript cA_addScript 1 (some .int) [.ref v0] M (some (.int q.1)) q.2 := by
  refine ex_of hG (by decide +kernel) (Nat.le_of_ble_eq_true rfl) ?_
  intro X hl C E N hD hn
  show ZM G X 0 [(0, .ref v0)] [] M 0 0
  unfold fA_addScript at h
  refine zz_aload_n C 0 ddA_addScript_0 rfl rfl ?_
  obtain ⟨h1, h⟩ := gdN h
  refine zz_geti C ddA_addScript_1 fl_A_42 rfl h1 ?_
  refine zz_iconst (v := 4) C ddA_addScript_4 (by decide) ?_
  refine zz_icmp_ge (tgt := 23) C ddA_addScript_5 rfl (fun hc => ?_) (fun hc => ?_)
  · replace h := iteT h hc
    refine zz_loc (L1 := []) [] rfl ?_
    exact zBA_addScript_23 hG C N hD hd E h
  · replace h := iteF h hc
    refine zz_aload_n C 0 ddA_addScript_8 rfl rfl ?_
    obtain ⟨h2, h⟩ := gdN h
    refine zz_getr C ddA_addScript_9 fl_A_46 rfl h1 (of_decide_eq_true h2) ?_
    refine zz_aload_n C 0 ddA_addScript_12 rfl rfl ?_
    obtain ⟨h3, h⟩ := gdN h
    refine zz_getr C ddA_addScript_13 fl_A_21 rfl h1 (of_decide_eq_true h3) ?_
    obtain ⟨h5, h⟩ := gdN h
    obtain ⟨q4, hq4, h⟩ := bindN h
    refine zz_callV0 (As := [.ref (grM M v0 1)]) C ddA_addScript_16 wd_510 my_S_readFrom mv_S_readFrom ⟨_, rfl, rfl⟩ (xS_readFrom hG (d - 1) (by omega) hq4) (by omega) h5 rfl rfl (Nat.le_of_ble_eq_true rfl) ?_
    refine zz_iconst (v := (-1)) C ddA_addScript_19 (by decide) ?_
    refine zz_icmp_eq (tgt := 25) C ddA_addScript_20 rfl (fun hc => ?_) (fun hc => ?_)
    · replace h := iteT h hc
      refine zz_aload_n C 0 ddA_addScript_25 rfl rfl ?_
      obtain ⟨h6, h⟩ := gdN h
      obtain ⟨h7, h⟩ := gdN h
      refine zz_getr C ddA_addScript_26 fl_A_37 rfl h6 (of_decide_eq_true h7) ?_
      refine zz_aload_n C 0 ddA_addScript_29 rfl rfl ?_
      refine zz_geti C ddA_addScript_30 fl_A_42 rfl h6 ?_
      obtain ⟨h8, h⟩ := gdN h
      obtain ⟨h9, h⟩ := gdN h
      refine zz_aaload (t := 104) C ddA_addScript_33 (by decide) (fun _ => rfl) h8 (of_decide_eq_true h9) ?_
      refine zz_aload_n C 0 ddA_addScript_34 rfl rfl ?_
      obtain ⟨h10, h⟩ := gdN h
      refine zz_getr C ddA_addScript_35 fl_A_46 rfl h6 (of_decide_eq_true h10) ?_
      obtain ⟨h12, h⟩ := gdN h
      obtain ⟨q11, hq11, h⟩ := bindN h
      refine zz_callV0 (As := [.ref (grM q4.2 v0 6)]) C ddA_addScript_38 wd_557 my_S_copyFrom mv_S_copyFrom ⟨_, rfl, rfl⟩ (xS_copyFrom hG (d - 1) (by omega) hq11) (by omega) h12 rfl rfl (Nat.le_of_ble_eq_true rfl) ?_
      refine zz_aload_n C 0 ddA_addScript_41 rfl rfl ?_
      refine zz_dup C ddA_addScript_42 rfl ?_
      obtain ⟨h13, h⟩ := gdN h
      refine zz_geti C ddA_addScript_43 fl_A_42 rfl h13 ?_
      refine zz_iconst (v := 1) C ddA_addScript_46 (by decide) ?_
      refine zz_iadd C ddA_addScript_47 ?_
      refine zz_puti C ddA_addScript_48 fl_A_42 rfl rfl rfl h13 ?_
      refine zz_aload_n C 0 ddA_addScript_51 rfl rfl ?_
      obtain ⟨h14, h⟩ := gdN h
      refine zz_getr C ddA_addScript_52 fl_A_12 rfl h13 (of_decide_eq_true h14) ?_
      refine zz_iconst (v := 0) C ddA_addScript_55 (by decide) ?_
      obtain ⟨h15, h⟩ := gdN h
      refine zz_puti C ddA_addScript_56 fl_A_98 rfl rfl rfl h15 ?_
      refine zz_aload_n C 0 ddA_addScript_59 rfl rfl ?_
      refine zz_geti C ddA_addScript_60 fl_A_42 rfl h13 ?_
      refine zz_iconst (v := 1) C ddA_addScript_63 (by decide) ?_
      refine zz_isub C ddA_addScript_64 ?_
      obtain rfl := Option.some.inj h
      exact zz_iret C E ddA_addScript_65
    · replace h := iteF h hc
      refine zz_loc (L1 := []) [] rfl ?_
      exact zBA_addScript_23 hG C N hD hd E h
theorem ddA_text_0 : decode cA_text 0 = .ok (.iload_n 1, 1) := by decide +kernel
theorem ddA_text_1 : decode cA_text 1 = .ok (.ifCond .ne 8, 3) := by decide +kernel
theorem ddA_text_4 : decode cA_text 4 = .ok (.aload_n 0, 1) := by decide +kernel
theorem ddA_text_5 : decode cA_text 5 = .ok (.invokevirtual 110, 3) := by decide +kernel
theorem ddA_text_8 : decode cA_text 8 = .ok (.ireturn, 1) := by decide +kernel
theorem ddA_text_9 : decode cA_text 9 = .ok (.iload_n 1, 1) := by decide +kernel
theorem ddA_text_10 : decode cA_text 10 = .ok (.iconst 1, 1) := by decide +kernel
theorem ddA_text_11 : decode cA_text 11 = .ok (.if_icmp .ne 10, 3) := by decide +kernel
theorem ddA_text_14 : decode cA_text 14 = .ok (.aload_n 0, 1) := by decide +kernel
theorem ddA_text_15 : decode cA_text 15 = .ok (.invokevirtual 114, 3) := by decide +kernel
theorem ddA_text_18 : decode cA_text 18 = .ok (.goto 4, 3) := by decide +kernel
theorem ddA_text_21 : decode cA_text 21 = .ok (.iconst (-1), 1) := by decide +kernel
theorem ddA_text_22 : decode cA_text 22 = .ok (.ireturn, 1) := by decide +kernel
set_option maxHeartbeats 2000000 in
theorem zBA_text_22 {G : GXM} {X : CxM} (hG : GokM G) (C : CoM G X cA_text "HomeFreed") (N : mLM X = 2) {d : Nat} (hD : dpM X = d) (hd : 7 ≤ d)  {q : Int32 × Mem} (E : EnM G X (some .int) (some (.int q.1)) q.2 0 0) {w0 : Int32} {M : Mem} (h : BA_text_22 w0 M = some q) : ZM G X 22 [] [.int w0] M 0 0 := by
  unfold BA_text_22 at h
  obtain rfl := Option.some.inj h
  exact zz_iret C E ddA_text_22
set_option maxHeartbeats 2000000 in
theorem xA_text {G : GXM} {l : Launch} (hG : GokM G) (d : Nat) (hd : 7 ≤ d) {v0 : Nat} {v1 : Int32} {M : Mem} {q : Int32 × Mem} (h : fA_text v0 v1 M = some q) : ExM G l d 0 0 yA_text cA_text 2 (some .int) [.ref v0, .int v1] M (some (.int q.1)) q.2 := by
  refine ex_of hG (by decide +kernel) (Nat.le_of_ble_eq_true rfl) ?_
  intro X hl C E N hD hn
  show ZM G X 0 [(0, .ref v0), (1, .int v1)] [] M 0 0
  unfold fA_text at h
  refine zz_iload_n C 1 ddA_text_0 rfl rfl ?_
  refine zz_if_ne (tgt := 9) C ddA_text_1 rfl (fun hc => ?_) (fun hc => ?_)
  · replace h := iteF h hc
    refine zz_iload_n C 1 ddA_text_9 rfl rfl ?_
    refine zz_iconst (v := 1) C ddA_text_10 (by decide) ?_
    refine zz_icmp_ne (tgt := 21) C ddA_text_11 rfl (fun hc => ?_) (fun hc => ?_)
    · replace h := iteF h hc
      refine zz_iconst (v := (-1)) C ddA_text_21 (by decide) ?_
      refine zz_loc (L1 := []) [] rfl ?_
      exact zBA_text_22 hG C N hD hd E h
    · replace h := iteT h hc
      refine zz_aload_n C 0 ddA_text_14 rfl rfl ?_
      obtain ⟨h2, h⟩ := gdN h
      obtain ⟨q1, hq1, h⟩ := bindN h
      refine zz_callV0 (As := []) C ddA_text_15 wd_553 my_A_addScript mv_A_addScript ⟨_, rfl, rfl⟩ (xA_addScript hG (d - 1) (by omega) hq1) (by omega) h2 rfl rfl (Nat.le_of_ble_eq_true rfl) ?_
      refine zz_goto (tgt := 22) C ddA_text_18 rfl ?_
      refine zz_loc (L1 := []) [] rfl ?_
      exact zBA_text_22 hG C N hD hd E h
  · replace h := iteT h hc
    refine zz_aload_n C 0 ddA_text_4 rfl rfl ?_
    obtain ⟨h4, h⟩ := gdN h
    obtain ⟨q3, hq3, h⟩ := bindN h
    refine zz_callV0 (As := []) C ddA_text_5 wd_533 my_A_beginArena mv_A_beginArena ⟨_, rfl, rfl⟩ (xA_beginArena hG (d - 1) (by omega) hq3) (by omega) h4 rfl rfl (Nat.le_of_ble_eq_true rfl) ?_
    obtain rfl := Option.some.inj h
    exact zz_iret C E ddA_text_8
theorem ddU_areTold_0 : decode cU_areTold 0 = .ok (.aload_n 0, 1) := by decide +kernel
theorem ddU_areTold_1 : decode cU_areTold 1 = .ok (.getfield 18, 3) := by decide +kernel
theorem ddU_areTold_4 : decode cU_areTold 4 = .ok (.ifCond .le 7, 3) := by decide +kernel
theorem ddU_areTold_7 : decode cU_areTold 7 = .ok (.iconst 1, 1) := by decide +kernel
theorem ddU_areTold_8 : decode cU_areTold 8 = .ok (.goto 4, 3) := by decide +kernel
theorem ddU_areTold_11 : decode cU_areTold 11 = .ok (.iconst 0, 1) := by decide +kernel
theorem ddU_areTold_12 : decode cU_areTold 12 = .ok (.ireturn, 1) := by decide +kernel
set_option maxHeartbeats 2000000 in
theorem zBU_areTold_12 {G : GXM} {X : CxM} (hG : GokM G) (C : CoM G X cU_areTold "HomeFreed$Rules") (N : mLM X = 1) {d : Nat} (hD : dpM X = d) (hd : 0 ≤ d)  {q : Int32 × Mem} (E : EnM G X (some .boolean) (some (.int q.1)) q.2 0 0) {w0 : Int32} {M : Mem} (h : BU_areTold_12 w0 M = some q) : ZM G X 12 [] [.int w0] M 0 0 := by
  unfold BU_areTold_12 at h
  obtain ⟨h1, h⟩ := gdN h
  obtain rfl := Option.some.inj h
  exact zz_zret C (of_decide_eq_true h1) E ddU_areTold_12
set_option maxHeartbeats 2000000 in
theorem xU_areTold {G : GXM} {l : Launch} (hG : GokM G) (d : Nat) (hd : 0 ≤ d) {v0 : Nat} {M : Mem} {q : Int32 × Mem} (h : fU_areTold v0 M = some q) : ExM G l d 0 0 yU_areTold cU_areTold 1 (some .boolean) [.ref v0] M (some (.int q.1)) q.2 := by
  refine ex_of hG (by decide +kernel) (Nat.le_of_ble_eq_true rfl) ?_
  intro X hl C E N hD hn
  show ZM G X 0 [(0, .ref v0)] [] M 0 0
  unfold fU_areTold at h
  refine zz_aload_n C 0 ddU_areTold_0 rfl rfl ?_
  obtain ⟨h1, h⟩ := gdN h
  refine zz_geti C ddU_areTold_1 fl_U_18 rfl h1 ?_
  refine zz_if_le (tgt := 11) C ddU_areTold_4 rfl (fun hc => ?_) (fun hc => ?_)
  · replace h := iteT h hc
    refine zz_iconst (v := 0) C ddU_areTold_11 (by decide) ?_
    refine zz_loc (L1 := []) [] rfl ?_
    exact zBU_areTold_12 hG C N hD hd E h
  · replace h := iteF h hc
    refine zz_iconst (v := 1) C ddU_areTold_7 (by decide) ?_
    refine zz_goto (tgt := 12) C ddU_areTold_8 rfl ?_
    refine zz_loc (L1 := []) [] rfl ?_
    exact zBU_areTold_12 hG C N hD hd E h
theorem ddA_rule_0 : decode cA_rule 0 = .ok (.aload_n 0, 1) := by decide +kernel
theorem ddA_rule_1 : decode cA_rule 1 = .ok (.getfield 28, 3) := by decide +kernel
theorem ddA_rule_4 : decode cA_rule 4 = .ok (.invokevirtual 132, 3) := by decide +kernel
theorem ddA_rule_7 : decode cA_rule 7 = .ok (.ifCond .eq 31, 3) := by decide +kernel
theorem ddA_rule_10 : decode cA_rule 10 = .ok (.iload_n 1, 1) := by decide +kernel
theorem ddA_rule_11 : decode cA_rule 11 = .ok (.ifCond .lt 27, 3) := by decide +kernel
theorem ddA_rule_14 : decode cA_rule 14 = .ok (.iload_n 1, 1) := by decide +kernel
theorem ddA_rule_15 : decode cA_rule 15 = .ok (.aload_n 0, 1) := by decide +kernel
theorem ddA_rule_16 : decode cA_rule 16 = .ok (.getfield 28, 3) := by decide +kernel
theorem ddA_rule_19 : decode cA_rule 19 = .ok (.getfield 136, 3) := by decide +kernel
theorem ddA_rule_22 : decode cA_rule 22 = .ok (.arraylength, 1) := by decide +kernel
theorem ddA_rule_23 : decode cA_rule 23 = .ok (.if_icmp .ge 15, 3) := by decide +kernel
theorem ddA_rule_26 : decode cA_rule 26 = .ok (.aload_n 0, 1) := by decide +kernel
theorem ddA_rule_27 : decode cA_rule 27 = .ok (.getfield 28, 3) := by decide +kernel
theorem ddA_rule_30 : decode cA_rule 30 = .ok (.getfield 136, 3) := by decide +kernel
theorem ddA_rule_33 : decode cA_rule 33 = .ok (.iload_n 1, 1) := by decide +kernel
theorem ddA_rule_34 : decode cA_rule 34 = .ok (.iaload, 1) := by decide +kernel
theorem ddA_rule_35 : decode cA_rule 35 = .ok (.goto 4, 3) := by decide +kernel
theorem ddA_rule_38 : decode cA_rule 38 = .ok (.iconst (-1), 1) := by decide +kernel
theorem ddA_rule_39 : decode cA_rule 39 = .ok (.ireturn, 1) := by decide +kernel
set_option maxHeartbeats 2000000 in
theorem zBA_rule_39 {G : GXM} {X : CxM} (hG : GokM G) (C : CoM G X cA_rule "HomeFreed") (N : mLM X = 2) {d : Nat} (hD : dpM X = d) (hd : 1 ≤ d)  {q : Int32 × Mem} (E : EnM G X (some .int) (some (.int q.1)) q.2 0 0) {w0 : Int32} {M : Mem} (h : BA_rule_39 w0 M = some q) : ZM G X 39 [] [.int w0] M 0 0 := by
  unfold BA_rule_39 at h
  obtain rfl := Option.some.inj h
  exact zz_iret C E ddA_rule_39
set_option maxHeartbeats 2000000 in
theorem zBA_rule_38 {G : GXM} {X : CxM} (hG : GokM G) (C : CoM G X cA_rule "HomeFreed") (N : mLM X = 2) {d : Nat} (hD : dpM X = d) (hd : 1 ≤ d)  {q : Int32 × Mem} (E : EnM G X (some .int) (some (.int q.1)) q.2 0 0) {M : Mem} (h : BA_rule_38 M = some q) : ZM G X 38 [] [] M 0 0 := by
  unfold BA_rule_38 at h
  refine zz_iconst (v := (-1)) C ddA_rule_38 (by decide) ?_
  exact zBA_rule_39 hG C N hD hd E h
set_option maxHeartbeats 2000000 in
theorem xA_rule {G : GXM} {l : Launch} (hG : GokM G) (d : Nat) (hd : 1 ≤ d) {v0 : Nat} {v1 : Int32} {M : Mem} {q : Int32 × Mem} (h : fA_rule v0 v1 M = some q) : ExM G l d 0 0 yA_rule cA_rule 2 (some .int) [.ref v0, .int v1] M (some (.int q.1)) q.2 := by
  refine ex_of hG (by decide +kernel) (Nat.le_of_ble_eq_true rfl) ?_
  intro X hl C E N hD hn
  show ZM G X 0 [(0, .ref v0), (1, .int v1)] [] M 0 0
  unfold fA_rule at h
  refine zz_aload_n C 0 ddA_rule_0 rfl rfl ?_
  obtain ⟨h1, h⟩ := gdN h
  obtain ⟨h2, h⟩ := gdN h
  refine zz_getr C ddA_rule_1 fl_A_28 rfl h1 (of_decide_eq_true h2) ?_
  obtain ⟨h4, h⟩ := gdN h
  obtain ⟨q3, hq3, h⟩ := bindN h
  refine zz_callV0 (As := []) C ddA_rule_4 wd_566 my_U_areTold mv_U_areTold ⟨_, rfl, rfl⟩ (xU_areTold hG (d - 1) (by omega) hq3) (by omega) h4 rfl rfl (Nat.le_of_ble_eq_true rfl) ?_
  refine zz_if_eq (tgt := 38) C ddA_rule_7 rfl (fun hc => ?_) (fun hc => ?_)
  · replace h := iteT h hc
    refine zz_loc (L1 := []) [] rfl ?_
    exact zBA_rule_38 hG C N hD hd E h
  · replace h := iteF h hc
    refine zz_iload_n C 1 ddA_rule_10 rfl rfl ?_
    refine zz_if_lt (tgt := 38) C ddA_rule_11 rfl (fun hc => ?_) (fun hc => ?_)
    · replace h := iteT h hc
      refine zz_loc (L1 := []) [] rfl ?_
      exact zBA_rule_38 hG C N hD hd E h
    · replace h := iteF h hc
      refine zz_iload_n C 1 ddA_rule_14 rfl rfl ?_
      refine zz_aload_n C 0 ddA_rule_15 rfl rfl ?_
      obtain ⟨h5, h⟩ := gdN h
      obtain ⟨h6, h⟩ := gdN h
      refine zz_getr C ddA_rule_16 fl_A_28 rfl h5 (of_decide_eq_true h6) ?_
      obtain ⟨h7, h⟩ := gdN h
      obtain ⟨h8, h⟩ := gdN h
      refine zz_getr C ddA_rule_19 fl_A_136 rfl h7 (of_decide_eq_true h8) ?_
      obtain ⟨h9, h⟩ := gdN h
      refine zz_alenI C ddA_rule_22 h9 ?_
      refine zz_icmp_ge (tgt := 38) C ddA_rule_23 rfl (fun hc => ?_) (fun hc => ?_)
      · replace h := iteT h hc
        refine zz_loc (L1 := []) [] rfl ?_
        exact zBA_rule_38 hG C N hD hd E h
      · replace h := iteF h hc
        refine zz_aload_n C 0 ddA_rule_26 rfl rfl ?_
        refine zz_getr C ddA_rule_27 fl_A_28 rfl h5 (of_decide_eq_true h6) ?_
        refine zz_getr C ddA_rule_30 fl_A_136 rfl h7 (of_decide_eq_true h8) ?_
        refine zz_iload_n C 1 ddA_rule_33 rfl rfl ?_
        obtain ⟨h10, h⟩ := gdN h
        refine zz_iaload C ddA_rule_34 h10 ?_
        refine zz_goto (tgt := 39) C ddA_rule_35 rfl ?_
        refine zz_loc (L1 := []) [] rfl ?_
        exact zBA_rule_39 hG C N hD hd E h
theorem ddU_isKind_0 : decode cU_isKind 0 = .ok (.iload_n 1, 1) := by decide +kernel
theorem ddU_isKind_1 : decode cU_isKind 1 = .ok (.ifCond .lt 15, 3) := by decide +kernel
theorem ddU_isKind_4 : decode cU_isKind 4 = .ok (.iload_n 1, 1) := by decide +kernel
theorem ddU_isKind_5 : decode cU_isKind 5 = .ok (.aload_n 0, 1) := by decide +kernel
theorem ddU_isKind_6 : decode cU_isKind 6 = .ok (.getfield 18, 3) := by decide +kernel
theorem ddU_isKind_9 : decode cU_isKind 9 = .ok (.if_icmp .ge 7, 3) := by decide +kernel
theorem ddU_isKind_12 : decode cU_isKind 12 = .ok (.iconst 1, 1) := by decide +kernel
theorem ddU_isKind_13 : decode cU_isKind 13 = .ok (.goto 4, 3) := by decide +kernel
theorem ddU_isKind_16 : decode cU_isKind 16 = .ok (.iconst 0, 1) := by decide +kernel
theorem ddU_isKind_17 : decode cU_isKind 17 = .ok (.ireturn, 1) := by decide +kernel
set_option maxHeartbeats 2000000 in
theorem zBU_isKind_17 {G : GXM} {X : CxM} (hG : GokM G) (C : CoM G X cU_isKind "HomeFreed$Rules") (N : mLM X = 2) {d : Nat} (hD : dpM X = d) (hd : 0 ≤ d)  {q : Int32 × Mem} (E : EnM G X (some .boolean) (some (.int q.1)) q.2 0 0) {w0 : Int32} {M : Mem} (h : BU_isKind_17 w0 M = some q) : ZM G X 17 [] [.int w0] M 0 0 := by
  unfold BU_isKind_17 at h
  obtain ⟨h1, h⟩ := gdN h
  obtain rfl := Option.some.inj h
  exact zz_zret C (of_decide_eq_true h1) E ddU_isKind_17
set_option maxHeartbeats 2000000 in
theorem zBU_isKind_16 {G : GXM} {X : CxM} (hG : GokM G) (C : CoM G X cU_isKind "HomeFreed$Rules") (N : mLM X = 2) {d : Nat} (hD : dpM X = d) (hd : 0 ≤ d)  {q : Int32 × Mem} (E : EnM G X (some .boolean) (some (.int q.1)) q.2 0 0) {M : Mem} (h : BU_isKind_16 M = some q) : ZM G X 16 [] [] M 0 0 := by
  unfold BU_isKind_16 at h
  refine zz_iconst (v := 0) C ddU_isKind_16 (by decide) ?_
  exact zBU_isKind_17 hG C N hD hd E h
set_option maxHeartbeats 2000000 in
theorem xU_isKind {G : GXM} {l : Launch} (hG : GokM G) (d : Nat) (hd : 0 ≤ d) {v0 : Nat} {v1 : Int32} {M : Mem} {q : Int32 × Mem} (h : fU_isKind v0 v1 M = some q) : ExM G l d 0 0 yU_isKind cU_isKind 2 (some .boolean) [.ref v0, .int v1] M (some (.int q.1)) q.2 := by
  refine ex_of hG (by decide +kernel) (Nat.le_of_ble_eq_true rfl) ?_
  intro X hl C E N hD hn
  show ZM G X 0 [(0, .ref v0), (1, .int v1)] [] M 0 0
  unfold fU_isKind at h
  refine zz_iload_n C 1 ddU_isKind_0 rfl rfl ?_
  refine zz_if_lt (tgt := 16) C ddU_isKind_1 rfl (fun hc => ?_) (fun hc => ?_)
  · replace h := iteT h hc
    refine zz_loc (L1 := []) [] rfl ?_
    exact zBU_isKind_16 hG C N hD hd E h
  · replace h := iteF h hc
    refine zz_iload_n C 1 ddU_isKind_4 rfl rfl ?_
    refine zz_aload_n C 0 ddU_isKind_5 rfl rfl ?_
    obtain ⟨h1, h⟩ := gdN h
    refine zz_geti C ddU_isKind_6 fl_U_18 rfl h1 ?_
    refine zz_icmp_ge (tgt := 16) C ddU_isKind_9 rfl (fun hc => ?_) (fun hc => ?_)
    · replace h := iteT h hc
      refine zz_loc (L1 := []) [] rfl ?_
      exact zBU_isKind_16 hG C N hD hd E h
    · replace h := iteF h hc
      refine zz_iconst (v := 1) C ddU_isKind_12 (by decide) ?_
      refine zz_goto (tgt := 17) C ddU_isKind_13 rfl ?_
      refine zz_loc (L1 := []) [] rfl ?_
      exact zBU_isKind_17 hG C N hD hd E h
theorem ddA_size_0 : decode cA_size 0 = .ok (.aload_n 0, 1) := by decide +kernel
theorem ddA_size_1 : decode cA_size 1 = .ok (.getfield 28, 3) := by decide +kernel
theorem ddA_size_4 : decode cA_size 4 = .ok (.iload_n 1, 1) := by decide +kernel
theorem ddA_size_5 : decode cA_size 5 = .ok (.invokevirtual 139, 3) := by decide +kernel
theorem ddA_size_8 : decode cA_size 8 = .ok (.ifCond .eq 15, 3) := by decide +kernel
theorem ddA_size_11 : decode cA_size 11 = .ok (.aload_n 0, 1) := by decide +kernel
theorem ddA_size_12 : decode cA_size 12 = .ok (.getfield 28, 3) := by decide +kernel
theorem ddA_size_15 : decode cA_size 15 = .ok (.getfield 143, 3) := by decide +kernel
theorem ddA_size_18 : decode cA_size 18 = .ok (.iload_n 1, 1) := by decide +kernel
theorem ddA_size_19 : decode cA_size 19 = .ok (.iaload, 1) := by decide +kernel
theorem ddA_size_20 : decode cA_size 20 = .ok (.goto 4, 3) := by decide +kernel
theorem ddA_size_23 : decode cA_size 23 = .ok (.iconst (-1), 1) := by decide +kernel
theorem ddA_size_24 : decode cA_size 24 = .ok (.ireturn, 1) := by decide +kernel
set_option maxHeartbeats 2000000 in
theorem zBA_size_24 {G : GXM} {X : CxM} (hG : GokM G) (C : CoM G X cA_size "HomeFreed") (N : mLM X = 2) {d : Nat} (hD : dpM X = d) (hd : 1 ≤ d)  {q : Int32 × Mem} (E : EnM G X (some .int) (some (.int q.1)) q.2 0 0) {w0 : Int32} {M : Mem} (h : BA_size_24 w0 M = some q) : ZM G X 24 [] [.int w0] M 0 0 := by
  unfold BA_size_24 at h
  obtain rfl := Option.some.inj h
  exact zz_iret C E ddA_size_24
set_option maxHeartbeats 2000000 in
theorem xA_size {G : GXM} {l : Launch} (hG : GokM G) (d : Nat) (hd : 1 ≤ d) {v0 : Nat} {v1 : Int32} {M : Mem} {q : Int32 × Mem} (h : fA_size v0 v1 M = some q) : ExM G l d 0 0 yA_size cA_size 2 (some .int) [.ref v0, .int v1] M (some (.int q.1)) q.2 := by
  refine ex_of hG (by decide +kernel) (Nat.le_of_ble_eq_true rfl) ?_
  intro X hl C E N hD hn
  show ZM G X 0 [(0, .ref v0), (1, .int v1)] [] M 0 0
  unfold fA_size at h
  refine zz_aload_n C 0 ddA_size_0 rfl rfl ?_
  obtain ⟨h1, h⟩ := gdN h
  obtain ⟨h2, h⟩ := gdN h
  refine zz_getr C ddA_size_1 fl_A_28 rfl h1 (of_decide_eq_true h2) ?_
  refine zz_iload_n C 1 ddA_size_4 rfl rfl ?_
  obtain ⟨h4, h⟩ := gdN h
  obtain ⟨q3, hq3, h⟩ := bindN h
  refine zz_callV0 (As := [.int v1]) C ddA_size_5 wd_574 my_U_isKind mv_U_isKind ⟨_, rfl, rfl⟩ (xU_isKind hG (d - 1) (by omega) hq3) (by omega) h4 rfl rfl (Nat.le_of_ble_eq_true rfl) ?_
  refine zz_if_eq (tgt := 23) C ddA_size_8 rfl (fun hc => ?_) (fun hc => ?_)
  · replace h := iteT h hc
    refine zz_iconst (v := (-1)) C ddA_size_23 (by decide) ?_
    refine zz_loc (L1 := []) [] rfl ?_
    exact zBA_size_24 hG C N hD hd E h
  · replace h := iteF h hc
    refine zz_aload_n C 0 ddA_size_11 rfl rfl ?_
    obtain ⟨h5, h⟩ := gdN h
    obtain ⟨h6, h⟩ := gdN h
    refine zz_getr C ddA_size_12 fl_A_28 rfl h5 (of_decide_eq_true h6) ?_
    obtain ⟨h7, h⟩ := gdN h
    obtain ⟨h8, h⟩ := gdN h
    refine zz_getr C ddA_size_15 fl_A_143 rfl h7 (of_decide_eq_true h8) ?_
    refine zz_iload_n C 1 ddA_size_18 rfl rfl ?_
    obtain ⟨h9, h⟩ := gdN h
    refine zz_iaload C ddA_size_19 h9 ?_
    refine zz_goto (tgt := 24) C ddA_size_20 rfl ?_
    refine zz_loc (L1 := []) [] rfl ?_
    exact zBA_size_24 hG C N hD hd E h
theorem ddH_isPage_0 : decode cH_isPage 0 = .ok (.iload_n 1, 1) := by decide +kernel
theorem ddH_isPage_1 : decode cH_isPage 1 = .ok (.ifCond .lt 20, 3) := by decide +kernel
theorem ddH_isPage_4 : decode cH_isPage 4 = .ok (.iload_n 1, 1) := by decide +kernel
theorem ddH_isPage_5 : decode cH_isPage 5 = .ok (.aload_n 0, 1) := by decide +kernel
theorem ddH_isPage_6 : decode cH_isPage 6 = .ok (.getfield 46, 3) := by decide +kernel
theorem ddH_isPage_9 : decode cH_isPage 9 = .ok (.getfield 76, 3) := by decide +kernel
theorem ddH_isPage_12 : decode cH_isPage 12 = .ok (.iconst 1, 1) := by decide +kernel
theorem ddH_isPage_13 : decode cH_isPage 13 = .ok (.iaload, 1) := by decide +kernel
theorem ddH_isPage_14 : decode cH_isPage 14 = .ok (.if_icmp .ge 7, 3) := by decide +kernel
theorem ddH_isPage_17 : decode cH_isPage 17 = .ok (.iconst 1, 1) := by decide +kernel
theorem ddH_isPage_18 : decode cH_isPage 18 = .ok (.goto 4, 3) := by decide +kernel
theorem ddH_isPage_21 : decode cH_isPage 21 = .ok (.iconst 0, 1) := by decide +kernel
theorem ddH_isPage_22 : decode cH_isPage 22 = .ok (.ireturn, 1) := by decide +kernel
set_option maxHeartbeats 2000000 in
theorem zBH_isPage_22 {G : GXM} {X : CxM} (hG : GokM G) (C : CoM G X cH_isPage "HomeFreed$Heap") (N : mLM X = 2) {d : Nat} (hD : dpM X = d) (hd : 0 ≤ d)  {q : Int32 × Mem} (E : EnM G X (some .boolean) (some (.int q.1)) q.2 0 0) {w0 : Int32} {M : Mem} (h : BH_isPage_22 w0 M = some q) : ZM G X 22 [] [.int w0] M 0 0 := by
  unfold BH_isPage_22 at h
  obtain ⟨h1, h⟩ := gdN h
  obtain rfl := Option.some.inj h
  exact zz_zret C (of_decide_eq_true h1) E ddH_isPage_22
set_option maxHeartbeats 2000000 in
theorem zBH_isPage_21 {G : GXM} {X : CxM} (hG : GokM G) (C : CoM G X cH_isPage "HomeFreed$Heap") (N : mLM X = 2) {d : Nat} (hD : dpM X = d) (hd : 0 ≤ d)  {q : Int32 × Mem} (E : EnM G X (some .boolean) (some (.int q.1)) q.2 0 0) {M : Mem} (h : BH_isPage_21 M = some q) : ZM G X 21 [] [] M 0 0 := by
  unfold BH_isPage_21 at h
  refine zz_iconst (v := 0) C ddH_isPage_21 (by decide) ?_
  exact zBH_isPage_22 hG C N hD hd E h
set_option maxHeartbeats 2000000 in
theorem xH_isPage {G : GXM} {l : Launch} (hG : GokM G) (d : Nat) (hd : 0 ≤ d) {v0 : Nat} {v1 : Int32} {M : Mem} {q : Int32 × Mem} (h : fH_isPage v0 v1 M = some q) : ExM G l d 0 0 yH_isPage cH_isPage 2 (some .boolean) [.ref v0, .int v1] M (some (.int q.1)) q.2 := by
  refine ex_of hG (by decide +kernel) (Nat.le_of_ble_eq_true rfl) ?_
  intro X hl C E N hD hn
  show ZM G X 0 [(0, .ref v0), (1, .int v1)] [] M 0 0
  unfold fH_isPage at h
  refine zz_iload_n C 1 ddH_isPage_0 rfl rfl ?_
  refine zz_if_lt (tgt := 21) C ddH_isPage_1 rfl (fun hc => ?_) (fun hc => ?_)
  · replace h := iteT h hc
    refine zz_loc (L1 := []) [] rfl ?_
    exact zBH_isPage_21 hG C N hD hd E h
  · replace h := iteF h hc
    refine zz_iload_n C 1 ddH_isPage_4 rfl rfl ?_
    refine zz_aload_n C 0 ddH_isPage_5 rfl rfl ?_
    obtain ⟨h1, h⟩ := gdN h
    obtain ⟨h2, h⟩ := gdN h
    refine zz_getr C ddH_isPage_6 fl_H_46 rfl h1 (of_decide_eq_true h2) ?_
    obtain ⟨h3, h⟩ := gdN h
    obtain ⟨h4, h⟩ := gdN h
    refine zz_getr C ddH_isPage_9 fl_H_76 rfl h3 (of_decide_eq_true h4) ?_
    refine zz_iconst (v := 1) C ddH_isPage_12 (by decide) ?_
    obtain ⟨h5, h⟩ := gdN h
    refine zz_iaload C ddH_isPage_13 h5 ?_
    refine zz_icmp_ge (tgt := 21) C ddH_isPage_14 rfl (fun hc => ?_) (fun hc => ?_)
    · replace h := iteT h hc
      refine zz_loc (L1 := []) [] rfl ?_
      exact zBH_isPage_21 hG C N hD hd E h
    · replace h := iteF h hc
      refine zz_iconst (v := 1) C ddH_isPage_17 (by decide) ?_
      refine zz_goto (tgt := 22) C ddH_isPage_18 rfl ?_
      refine zz_loc (L1 := []) [] rfl ?_
      exact zBH_isPage_22 hG C N hD hd E h
theorem ddH_listOf_0 : decode cH_listOf 0 = .ok (.iload_n 1, 1) := by decide +kernel
theorem ddH_listOf_1 : decode cH_listOf 1 = .ok (.iconst 3, 1) := by decide +kernel
theorem ddH_listOf_2 : decode cH_listOf 2 = .ok (.imul, 1) := by decide +kernel
theorem ddH_listOf_3 : decode cH_listOf 3 = .ok (.iload_n 2, 1) := by decide +kernel
theorem ddH_listOf_4 : decode cH_listOf 4 = .ok (.iadd, 1) := by decide +kernel
theorem ddH_listOf_5 : decode cH_listOf 5 = .ok (.ireturn, 1) := by decide +kernel
set_option maxHeartbeats 2000000 in
theorem xH_listOf {G : GXM} {l : Launch} (hG : GokM G) (d : Nat) (hd : 0 ≤ d) {v0 : Nat} {v1 : Int32} {v2 : Int32} {M : Mem} {q : Int32 × Mem} (h : fH_listOf v0 v1 v2 M = some q) : ExM G l d 0 0 yH_listOf cH_listOf 3 (some .int) [.ref v0, .int v1, .int v2] M (some (.int q.1)) q.2 := by
  refine ex_of hG (by decide +kernel) (Nat.le_of_ble_eq_true rfl) ?_
  intro X hl C E N hD hn
  show ZM G X 0 [(0, .ref v0), (1, .int v1), (2, .int v2)] [] M 0 0
  unfold fH_listOf at h
  refine zz_iload_n C 1 ddH_listOf_0 rfl rfl ?_
  refine zz_iconst (v := 3) C ddH_listOf_1 (by decide) ?_
  refine zz_imul C ddH_listOf_2 ?_
  refine zz_iload_n C 2 ddH_listOf_3 rfl rfl ?_
  refine zz_iadd C ddH_listOf_4 ?_
  obtain rfl := Option.some.inj h
  exact zz_iret C E ddH_listOf_5
theorem ddC_thingAt_0 : decode cC_thingAt 0 = .ok (.iload_n 1, 1) := by decide +kernel
theorem ddC_thingAt_1 : decode cC_thingAt 1 = .ok (.ifCond .lt 26, 3) := by decide +kernel
theorem ddC_thingAt_4 : decode cC_thingAt 4 = .ok (.iload_n 1, 1) := by decide +kernel
theorem ddC_thingAt_5 : decode cC_thingAt 5 = .ok (.aload_n 0, 1) := by decide +kernel
theorem ddC_thingAt_6 : decode cC_thingAt 6 = .ok (.getfield 9, 3) := by decide +kernel
theorem ddC_thingAt_9 : decode cC_thingAt 9 = .ok (.arraylength, 1) := by decide +kernel
theorem ddC_thingAt_10 : decode cC_thingAt 10 = .ok (.if_icmp .ge 17, 3) := by decide +kernel
theorem ddC_thingAt_13 : decode cC_thingAt 13 = .ok (.iload_n 2, 1) := by decide +kernel
theorem ddC_thingAt_14 : decode cC_thingAt 14 = .ok (.ifCond .lt 13, 3) := by decide +kernel
theorem ddC_thingAt_17 : decode cC_thingAt 17 = .ok (.iload_n 2, 1) := by decide +kernel
theorem ddC_thingAt_18 : decode cC_thingAt 18 = .ok (.aload_n 0, 1) := by decide +kernel
theorem ddC_thingAt_19 : decode cC_thingAt 19 = .ok (.getfield 15, 3) := by decide +kernel
theorem ddC_thingAt_22 : decode cC_thingAt 22 = .ok (.iload_n 1, 1) := by decide +kernel
theorem ddC_thingAt_23 : decode cC_thingAt 23 = .ok (.iaload, 1) := by decide +kernel
theorem ddC_thingAt_24 : decode cC_thingAt 24 = .ok (.if_icmp .lt 5, 3) := by decide +kernel
theorem ddC_thingAt_27 : decode cC_thingAt 27 = .ok (.iconst (-1), 1) := by decide +kernel
theorem ddC_thingAt_28 : decode cC_thingAt 28 = .ok (.ireturn, 1) := by decide +kernel
theorem ddC_thingAt_29 : decode cC_thingAt 29 = .ok (.aload_n 0, 1) := by decide +kernel
theorem ddC_thingAt_30 : decode cC_thingAt 30 = .ok (.getfield 9, 3) := by decide +kernel
theorem ddC_thingAt_33 : decode cC_thingAt 33 = .ok (.iload_n 1, 1) := by decide +kernel
theorem ddC_thingAt_34 : decode cC_thingAt 34 = .ok (.iaload, 1) := by decide +kernel
theorem ddC_thingAt_35 : decode cC_thingAt 35 = .ok (.istore_n 3, 1) := by decide +kernel
theorem ddC_thingAt_36 : decode cC_thingAt 36 = .ok (.iconst 0, 1) := by decide +kernel
theorem ddC_thingAt_37 : decode cC_thingAt 37 = .ok (.istore 4, 2) := by decide +kernel
theorem ddC_thingAt_39 : decode cC_thingAt 39 = .ok (.iload 4, 2) := by decide +kernel
theorem ddC_thingAt_41 : decode cC_thingAt 41 = .ok (.iload_n 2, 1) := by decide +kernel
theorem ddC_thingAt_42 : decode cC_thingAt 42 = .ok (.if_icmp .ge 21, 3) := by decide +kernel
theorem ddC_thingAt_45 : decode cC_thingAt 45 = .ok (.iload_n 3, 1) := by decide +kernel
theorem ddC_thingAt_46 : decode cC_thingAt 46 = .ok (.iconst (-1), 1) := by decide +kernel
theorem ddC_thingAt_47 : decode cC_thingAt 47 = .ok (.if_icmp .eq 16, 3) := by decide +kernel
theorem ddC_thingAt_50 : decode cC_thingAt 50 = .ok (.aload_n 0, 1) := by decide +kernel
theorem ddC_thingAt_51 : decode cC_thingAt 51 = .ok (.getfield 18, 3) := by decide +kernel
theorem ddC_thingAt_54 : decode cC_thingAt 54 = .ok (.iload_n 3, 1) := by decide +kernel
theorem ddC_thingAt_55 : decode cC_thingAt 55 = .ok (.iaload, 1) := by decide +kernel
theorem ddC_thingAt_56 : decode cC_thingAt 56 = .ok (.istore_n 3, 1) := by decide +kernel
theorem ddC_thingAt_57 : decode cC_thingAt 57 = .ok (.iinc 4 1, 3) := by decide +kernel
theorem ddC_thingAt_60 : decode cC_thingAt 60 = .ok (.goto (-21), 3) := by decide +kernel
theorem ddC_thingAt_63 : decode cC_thingAt 63 = .ok (.iload_n 3, 1) := by decide +kernel
theorem ddC_thingAt_64 : decode cC_thingAt 64 = .ok (.ireturn, 1) := by decide +kernel
set_option maxHeartbeats 2000000 in
theorem zBC_thingAt_63 {G : GXM} {X : CxM} (hG : GokM G) (C : CoM G X cC_thingAt "HomeFreed$Chains") (N : mLM X = 5) {d : Nat} (hD : dpM X = d) (hd : 0 ≤ d)  {q : Int32 × Mem} (E : EnM G X (some .int) (some (.int q.1)) q.2 0 0) {v3 : Int32} {M : Mem} (h : BC_thingAt_63 v3 M = some q) : ZM G X 63 [(3, .int v3)] [] M 0 0 := by
  unfold BC_thingAt_63 at h
  refine zz_iload_n C 0 ddC_thingAt_63 rfl rfl ?_
  obtain rfl := Option.some.inj h
  exact zz_iret C E ddC_thingAt_64
set_option maxHeartbeats 2000000 in
theorem zBC_thingAt_39 {G : GXM} {X : CxM} (hG : GokM G) (C : CoM G X cC_thingAt "HomeFreed$Chains") (N : mLM X = 5) {d : Nat} (hD : dpM X = d) (hd : 0 ≤ d) {v0 : Nat} {v2 : Int32} {K : Nat → Int32 → Int32 → Int32 → Mem → Option ((Int32 × Mem))} {q : (Int32 × Mem)} (hK : ∀ (v3 : Int32) (v4 : Int32) (M : Mem), K v0 v2 v3 v4 M = some q → ZM G X 39 [(0, .ref v0), (2, .int v2), (3, .int v3), (4, .int v4)] [] M 0 0) (hx0 : ∀ y : Int32 × Mem, q = y → ZM G X 63 [(3, .int y.1)] [] y.2 0 0) {v3 : Int32} {v4 : Int32} {M : Mem} (h : BC_thingAt_39 K v0 v2 v3 v4 M = some q) : ZM G X 39 [(0, .ref v0), (2, .int v2), (3, .int v3), (4, .int v4)] [] M 0 0 := by
  unfold BC_thingAt_39 at h
  refine zz_iload C 3 ddC_thingAt_39 rfl ?_
  refine zz_iload_n C 1 ddC_thingAt_41 rfl rfl ?_
  refine zz_icmp_ge (tgt := 63) C ddC_thingAt_42 rfl (fun hc => ?_) (fun hc => ?_)
  · replace h := iteT h hc
    refine zz_loc (L1 := [(3, .int v3)]) [2] rfl ?_
    exact hx0 _ (Option.some.inj h).symm
  · replace h := iteF h hc
    refine zz_iload_n C 2 ddC_thingAt_45 rfl rfl ?_
    refine zz_iconst (v := (-1)) C ddC_thingAt_46 (by decide) ?_
    refine zz_icmp_eq (tgt := 63) C ddC_thingAt_47 rfl (fun hc => ?_) (fun hc => ?_)
    · replace h := iteT h hc
      refine zz_loc (L1 := [(3, .int v3)]) [2] rfl ?_
      exact hx0 _ (Option.some.inj h).symm
    · replace h := iteF h hc
      refine zz_aload_n C 0 ddC_thingAt_50 rfl rfl ?_
      obtain ⟨h1, h⟩ := gdN h
      obtain ⟨h2, h⟩ := gdN h
      refine zz_getr C ddC_thingAt_51 fl_C_18 rfl h1 (of_decide_eq_true h2) ?_
      refine zz_iload_n C 2 ddC_thingAt_54 rfl rfl ?_
      obtain ⟨h3, h⟩ := gdN h
      refine zz_iaload C ddC_thingAt_55 h3 ?_
      refine zz_istore_n (L1 := [(3, .int (giM M (grM M v0 2) (Int32.toNatClampNeg v3))), (0, .ref v0), (2, .int v2), (4, .int v4)]) C ddC_thingAt_56 rfl N (by decide) rfl ?_
      refine zz_iinc (v := v4 + 1) (L1 := [(4, .int (v4 + 1)), (3, .int (giM M (grM M v0 2) (Int32.toNatClampNeg v3))), (0, .ref v0), (2, .int v2)]) C 3 ddC_thingAt_57 rfl rfl N (by decide) rfl ?_
      refine zz_goto (tgt := 39) C ddC_thingAt_60 rfl ?_
      refine zz_loc (L1 := [(0, .ref v0), (2, .int v2), (3, .int (giM M (grM M v0 2) (Int32.toNatClampNeg v3))), (4, .int (v4 + 1))]) [2, 3, 1, 0] rfl ?_
      exact hK _ _ _ h
set_option maxHeartbeats 2000000 in
theorem zLC_thingAt_39 {G : GXM} {X : CxM} (hG : GokM G) (C : CoM G X cC_thingAt "HomeFreed$Chains") (N : mLM X = 5) {d : Nat} (hD : dpM X = d) (hd : 0 ≤ d) {v0 : Nat} {v2 : Int32} {q : (Int32 × Mem)} : ∀ (f : Nat) (v3 : Int32) (v4 : Int32) (M : Mem), LC_thingAt_39 f v0 v2 v3 v4 M = some q → (hx0 : ∀ y : Int32 × Mem, q = y → ZM G X 63 [(3, .int y.1)] [] y.2 0 0) → ZM G X 39 [(0, .ref v0), (2, .int v2), (3, .int v3), (4, .int v4)] [] M 0 0 := by
  intro f
  induction f with
  | zero => intro v3 v4 M h; cases h
  | succ f ih =>
    intro v3 v4 M h hx0
    exact zBC_thingAt_39 hG C N hD hd (K := LC_thingAt_39 f) (q := q) (fun v3 v4 M h => ih v3 v4 M h hx0) hx0 h
set_option maxHeartbeats 2000000 in
theorem zBC_thingAt_27 {G : GXM} {X : CxM} (hG : GokM G) (C : CoM G X cC_thingAt "HomeFreed$Chains") (N : mLM X = 5) {d : Nat} (hD : dpM X = d) (hd : 0 ≤ d)  {q : Int32 × Mem} (E : EnM G X (some .int) (some (.int q.1)) q.2 0 0) {M : Mem} (h : BC_thingAt_27 M = some q) : ZM G X 27 [] [] M 0 0 := by
  unfold BC_thingAt_27 at h
  refine zz_iconst (v := (-1)) C ddC_thingAt_27 (by decide) ?_
  obtain rfl := Option.some.inj h
  exact zz_iret C E ddC_thingAt_28
set_option maxHeartbeats 2000000 in
theorem xC_thingAt {G : GXM} {l : Launch} (hG : GokM G) (d : Nat) (hd : 0 ≤ d) {v0 : Nat} {v1 : Int32} {v2 : Int32} {M : Mem} {q : Int32 × Mem} (h : fC_thingAt v0 v1 v2 M = some q) : ExM G l d 0 0 yC_thingAt cC_thingAt 5 (some .int) [.ref v0, .int v1, .int v2] M (some (.int q.1)) q.2 := by
  refine ex_of hG (by decide +kernel) (Nat.le_of_ble_eq_true rfl) ?_
  intro X hl C E N hD hn
  show ZM G X 0 [(0, .ref v0), (1, .int v1), (2, .int v2)] [] M 0 0
  unfold fC_thingAt at h
  refine zz_iload_n C 1 ddC_thingAt_0 rfl rfl ?_
  refine zz_if_lt (tgt := 27) C ddC_thingAt_1 rfl (fun hc => ?_) (fun hc => ?_)
  · replace h := iteT h hc
    refine zz_loc (L1 := []) [] rfl ?_
    exact zBC_thingAt_27 hG C N hD hd E h
  · replace h := iteF h hc
    refine zz_iload_n C 1 ddC_thingAt_4 rfl rfl ?_
    refine zz_aload_n C 0 ddC_thingAt_5 rfl rfl ?_
    obtain ⟨h1, h⟩ := gdN h
    obtain ⟨h2, h⟩ := gdN h
    refine zz_getr C ddC_thingAt_6 fl_C_9 rfl h1 (of_decide_eq_true h2) ?_
    obtain ⟨h3, h⟩ := gdN h
    refine zz_alenI C ddC_thingAt_9 h3 ?_
    refine zz_icmp_ge (tgt := 27) C ddC_thingAt_10 rfl (fun hc => ?_) (fun hc => ?_)
    · replace h := iteT h hc
      refine zz_loc (L1 := []) [] rfl ?_
      exact zBC_thingAt_27 hG C N hD hd E h
    · replace h := iteF h hc
      refine zz_iload_n C 2 ddC_thingAt_13 rfl rfl ?_
      refine zz_if_lt (tgt := 27) C ddC_thingAt_14 rfl (fun hc => ?_) (fun hc => ?_)
      · replace h := iteT h hc
        refine zz_loc (L1 := []) [] rfl ?_
        exact zBC_thingAt_27 hG C N hD hd E h
      · replace h := iteF h hc
        refine zz_iload_n C 2 ddC_thingAt_17 rfl rfl ?_
        refine zz_aload_n C 0 ddC_thingAt_18 rfl rfl ?_
        obtain ⟨h4, h⟩ := gdN h
        refine zz_getr C ddC_thingAt_19 fl_C_15 rfl h1 (of_decide_eq_true h4) ?_
        refine zz_iload_n C 1 ddC_thingAt_22 rfl rfl ?_
        obtain ⟨h5, h⟩ := gdN h
        refine zz_iaload C ddC_thingAt_23 h5 ?_
        refine zz_icmp_lt (tgt := 29) C ddC_thingAt_24 rfl (fun hc => ?_) (fun hc => ?_)
        · replace h := iteT h hc
          refine zz_aload_n C 0 ddC_thingAt_29 rfl rfl ?_
          refine zz_getr C ddC_thingAt_30 fl_C_9 rfl h1 (of_decide_eq_true h2) ?_
          refine zz_iload_n C 1 ddC_thingAt_33 rfl rfl ?_
          obtain ⟨h6, h⟩ := gdN h
          refine zz_iaload C ddC_thingAt_34 h6 ?_
          refine zz_istore_n (L1 := [(3, .int (giM M (grM M v0 0) (Int32.toNatClampNeg v1))), (0, .ref v0), (1, .int v1), (2, .int v2)]) C ddC_thingAt_35 rfl N (by decide) rfl ?_
          refine zz_iconst (v := 0) C ddC_thingAt_36 (by decide) ?_
          refine zz_istore (L1 := [(4, .int 0), (3, .int (giM M (grM M v0 0) (Int32.toNatClampNeg v1))), (0, .ref v0), (1, .int v1), (2, .int v2)]) C ddC_thingAt_37 N (by decide) rfl ?_
          refine zz_loc (L1 := [(0, .ref v0), (2, .int v2), (3, .int (giM M (grM M v0 0) (Int32.toNatClampNeg v1))), (4, .int 0)]) [2, 4, 1, 0] rfl ?_
          obtain ⟨q7, hq7, h⟩ := bindN h
          refine zLC_thingAt_39 hG C N hD hd 1000000 _ _ _ hq7 ?_
          · intro y8 eq7; replace eq7 := eq7.symm; subst eq7
            exact zBC_thingAt_63 hG C N hD hd E h
        · replace h := iteF h hc
          refine zz_loc (L1 := []) [] rfl ?_
          exact zBC_thingAt_27 hG C N hD hd E h
theorem ddH_ownNumber_0 : decode cH_ownNumber 0 = .ok (.iload_n 1, 1) := by decide +kernel
theorem ddH_ownNumber_1 : decode cH_ownNumber 1 = .ok (.iconst (-1), 1) := by decide +kernel
theorem ddH_ownNumber_2 : decode cH_ownNumber 2 = .ok (.if_icmp .ne 7, 3) := by decide +kernel
theorem ddH_ownNumber_5 : decode cH_ownNumber 5 = .ok (.iconst (-1), 1) := by decide +kernel
theorem ddH_ownNumber_6 : decode cH_ownNumber 6 = .ok (.goto 7, 3) := by decide +kernel
theorem ddH_ownNumber_9 : decode cH_ownNumber 9 = .ok (.iload_n 1, 1) := by decide +kernel
theorem ddH_ownNumber_10 : decode cH_ownNumber 10 = .ok (.bipush 40, 2) := by decide +kernel
theorem ddH_ownNumber_12 : decode cH_ownNumber 12 = .ok (.irem, 1) := by decide +kernel
theorem ddH_ownNumber_13 : decode cH_ownNumber 13 = .ok (.ireturn, 1) := by decide +kernel
set_option maxHeartbeats 2000000 in
theorem zBH_ownNumber_13 {G : GXM} {X : CxM} (hG : GokM G) (C : CoM G X cH_ownNumber "HomeFreed$Heap") (N : mLM X = 2) {d : Nat} (hD : dpM X = d) (hd : 0 ≤ d)  {q : Int32 × Mem} (E : EnM G X (some .int) (some (.int q.1)) q.2 0 0) {w0 : Int32} {M : Mem} (h : BH_ownNumber_13 w0 M = some q) : ZM G X 13 [] [.int w0] M 0 0 := by
  unfold BH_ownNumber_13 at h
  obtain rfl := Option.some.inj h
  exact zz_iret C E ddH_ownNumber_13
set_option maxHeartbeats 2000000 in
theorem xH_ownNumber {G : GXM} {l : Launch} (hG : GokM G) (d : Nat) (hd : 0 ≤ d) {v0 : Nat} {v1 : Int32} {M : Mem} {q : Int32 × Mem} (h : fH_ownNumber v0 v1 M = some q) : ExM G l d 0 0 yH_ownNumber cH_ownNumber 2 (some .int) [.ref v0, .int v1] M (some (.int q.1)) q.2 := by
  refine ex_of hG (by decide +kernel) (Nat.le_of_ble_eq_true rfl) ?_
  intro X hl C E N hD hn
  show ZM G X 0 [(0, .ref v0), (1, .int v1)] [] M 0 0
  unfold fH_ownNumber at h
  refine zz_iload_n C 1 ddH_ownNumber_0 rfl rfl ?_
  refine zz_iconst (v := (-1)) C ddH_ownNumber_1 (by decide) ?_
  refine zz_icmp_ne (tgt := 9) C ddH_ownNumber_2 rfl (fun hc => ?_) (fun hc => ?_)
  · replace h := iteF h hc
    refine zz_iload_n C 1 ddH_ownNumber_9 rfl rfl ?_
    refine zz_bipush (v := 40) C ddH_ownNumber_10 (by decide) ?_
    refine zz_irem C ddH_ownNumber_12 (by decide) ?_
    refine zz_loc (L1 := []) [] rfl ?_
    exact zBH_ownNumber_13 hG C N hD hd E h
  · replace h := iteT h hc
    refine zz_iconst (v := (-1)) C ddH_ownNumber_5 (by decide) ?_
    refine zz_goto (tgt := 13) C ddH_ownNumber_6 rfl ?_
    refine zz_loc (L1 := []) [] rfl ?_
    exact zBH_ownNumber_13 hG C N hD hd E h
theorem ddA_list_0 : decode cA_list 0 = .ok (.aload_n 0, 1) := by decide +kernel
theorem ddA_list_1 : decode cA_list 1 = .ok (.getfield 55, 3) := by decide +kernel
theorem ddA_list_4 : decode cA_list 4 = .ok (.iload_n 1, 1) := by decide +kernel
theorem ddA_list_5 : decode cA_list 5 = .ok (.invokevirtual 146, 3) := by decide +kernel
theorem ddA_list_8 : decode cA_list 8 = .ok (.ifCond .eq 12, 3) := by decide +kernel
theorem ddA_list_11 : decode cA_list 11 = .ok (.iload_n 2, 1) := by decide +kernel
theorem ddA_list_12 : decode cA_list 12 = .ok (.ifCond .lt 8, 3) := by decide +kernel
theorem ddA_list_15 : decode cA_list 15 = .ok (.iload_n 2, 1) := by decide +kernel
theorem ddA_list_16 : decode cA_list 16 = .ok (.iconst 2, 1) := by decide +kernel
theorem ddA_list_17 : decode cA_list 17 = .ok (.if_icmp .le 5, 3) := by decide +kernel
theorem ddA_list_20 : decode cA_list 20 = .ok (.iconst (-1), 1) := by decide +kernel
theorem ddA_list_21 : decode cA_list 21 = .ok (.ireturn, 1) := by decide +kernel
theorem ddA_list_22 : decode cA_list 22 = .ok (.aload_n 0, 1) := by decide +kernel
theorem ddA_list_23 : decode cA_list 23 = .ok (.getfield 55, 3) := by decide +kernel
theorem ddA_list_26 : decode cA_list 26 = .ok (.aload_n 0, 1) := by decide +kernel
theorem ddA_list_27 : decode cA_list 27 = .ok (.getfield 55, 3) := by decide +kernel
theorem ddA_list_30 : decode cA_list 30 = .ok (.getfield 172, 3) := by decide +kernel
theorem ddA_list_33 : decode cA_list 33 = .ok (.aload_n 0, 1) := by decide +kernel
theorem ddA_list_34 : decode cA_list 34 = .ok (.getfield 55, 3) := by decide +kernel
theorem ddA_list_37 : decode cA_list 37 = .ok (.iload_n 1, 1) := by decide +kernel
theorem ddA_list_38 : decode cA_list 38 = .ok (.iload_n 2, 1) := by decide +kernel
theorem ddA_list_39 : decode cA_list 39 = .ok (.invokevirtual 176, 3) := by decide +kernel
theorem ddA_list_42 : decode cA_list 42 = .ok (.iload_n 3, 1) := by decide +kernel
theorem ddA_list_43 : decode cA_list 43 = .ok (.invokevirtual 179, 3) := by decide +kernel
theorem ddA_list_46 : decode cA_list 46 = .ok (.invokevirtual 184, 3) := by decide +kernel
theorem ddA_list_49 : decode cA_list 49 = .ok (.ireturn, 1) := by decide +kernel
set_option maxHeartbeats 2000000 in
theorem zBA_list_20 {G : GXM} {X : CxM} (hG : GokM G) (C : CoM G X cA_list "HomeFreed") (N : mLM X = 4) {d : Nat} (hD : dpM X = d) (hd : 1 ≤ d)  {q : Int32 × Mem} (E : EnM G X (some .int) (some (.int q.1)) q.2 0 0) {M : Mem} (h : BA_list_20 M = some q) : ZM G X 20 [] [] M 0 0 := by
  unfold BA_list_20 at h
  refine zz_iconst (v := (-1)) C ddA_list_20 (by decide) ?_
  obtain rfl := Option.some.inj h
  exact zz_iret C E ddA_list_21
set_option maxHeartbeats 2000000 in
theorem xA_list {G : GXM} {l : Launch} (hG : GokM G) (d : Nat) (hd : 1 ≤ d) {v0 : Nat} {v1 : Int32} {v2 : Int32} {v3 : Int32} {M : Mem} {q : Int32 × Mem} (h : fA_list v0 v1 v2 v3 M = some q) : ExM G l d 0 0 yA_list cA_list 4 (some .int) [.ref v0, .int v1, .int v2, .int v3] M (some (.int q.1)) q.2 := by
  refine ex_of hG (by decide +kernel) (Nat.le_of_ble_eq_true rfl) ?_
  intro X hl C E N hD hn
  show ZM G X 0 [(0, .ref v0), (1, .int v1), (2, .int v2), (3, .int v3)] [] M 0 0
  unfold fA_list at h
  refine zz_aload_n C 0 ddA_list_0 rfl rfl ?_
  obtain ⟨h1, h⟩ := gdN h
  obtain ⟨h2, h⟩ := gdN h
  refine zz_getr C ddA_list_1 fl_A_55 rfl h1 (of_decide_eq_true h2) ?_
  refine zz_iload_n C 1 ddA_list_4 rfl rfl ?_
  obtain ⟨h4, h⟩ := gdN h
  obtain ⟨q3, hq3, h⟩ := bindN h
  refine zz_callV0 (As := [.int v1]) C ddA_list_5 wd_582 my_H_isPage mv_H_isPage ⟨_, rfl, rfl⟩ (xH_isPage hG (d - 1) (by omega) hq3) (by omega) h4 rfl rfl (Nat.le_of_ble_eq_true rfl) ?_
  refine zz_if_eq (tgt := 20) C ddA_list_8 rfl (fun hc => ?_) (fun hc => ?_)
  · replace h := iteT h hc
    refine zz_loc (L1 := []) [] rfl ?_
    exact zBA_list_20 hG C N hD hd E h
  · replace h := iteF h hc
    refine zz_iload_n C 2 ddA_list_11 rfl rfl ?_
    refine zz_if_lt (tgt := 20) C ddA_list_12 rfl (fun hc => ?_) (fun hc => ?_)
    · replace h := iteT h hc
      refine zz_loc (L1 := []) [] rfl ?_
      exact zBA_list_20 hG C N hD hd E h
    · replace h := iteF h hc
      refine zz_iload_n C 2 ddA_list_15 rfl rfl ?_
      refine zz_iconst (v := 2) C ddA_list_16 (by decide) ?_
      refine zz_icmp_le (tgt := 22) C ddA_list_17 rfl (fun hc => ?_) (fun hc => ?_)
      · replace h := iteT h hc
        refine zz_aload_n C 0 ddA_list_22 rfl rfl ?_
        obtain ⟨h5, h⟩ := gdN h
        obtain ⟨h6, h⟩ := gdN h
        refine zz_getr C ddA_list_23 fl_A_55 rfl h5 (of_decide_eq_true h6) ?_
        refine zz_aload_n C 0 ddA_list_26 rfl rfl ?_
        refine zz_getr C ddA_list_27 fl_A_55 rfl h5 (of_decide_eq_true h6) ?_
        obtain ⟨h7, h⟩ := gdN h
        obtain ⟨h8, h⟩ := gdN h
        refine zz_getr C ddA_list_30 fl_A_172 rfl h7 (of_decide_eq_true h8) ?_
        refine zz_aload_n C 0 ddA_list_33 rfl rfl ?_
        refine zz_getr C ddA_list_34 fl_A_55 rfl h5 (of_decide_eq_true h6) ?_
        refine zz_iload_n C 1 ddA_list_37 rfl rfl ?_
        refine zz_iload_n C 2 ddA_list_38 rfl rfl ?_
        obtain ⟨q9, hq9, h⟩ := bindN h
        refine zz_callV0 (As := [.int v1, .int v2]) C ddA_list_39 wd_586 my_H_listOf mv_H_listOf ⟨_, rfl, rfl⟩ (xH_listOf hG (d - 1) (by omega) hq9) (by omega) h7 rfl rfl (Nat.le_of_ble_eq_true rfl) ?_
        refine zz_iload_n C 3 ddA_list_42 rfl rfl ?_
        obtain ⟨h11, h⟩ := gdN h
        obtain ⟨q10, hq10, h⟩ := bindN h
        refine zz_callV0 (As := [.int q9.1, .int v3]) C ddA_list_43 wd_590 my_C_thingAt mv_C_thingAt ⟨_, rfl, rfl⟩ (xC_thingAt hG (d - 1) (by omega) hq10) (by omega) h11 rfl rfl (Nat.le_of_ble_eq_true rfl) ?_
        obtain ⟨h13, h⟩ := gdN h
        obtain ⟨q12, hq12, h⟩ := bindN h
        refine zz_callV0 (As := [.int q10.1]) C ddA_list_46 wd_594 my_H_ownNumber mv_H_ownNumber ⟨_, rfl, rfl⟩ (xH_ownNumber hG (d - 1) (by omega) hq12) (by omega) h13 rfl rfl (Nat.le_of_ble_eq_true rfl) ?_
        obtain rfl := Option.some.inj h
        exact zz_iret C E ddA_list_49
      · replace h := iteF h hc
        refine zz_loc (L1 := []) [] rfl ?_
        exact zBA_list_20 hG C N hD hd E h
theorem ddH_isThread_0 : decode cH_isThread 0 = .ok (.iload_n 1, 1) := by decide +kernel
theorem ddH_isThread_1 : decode cH_isThread 1 = .ok (.ifCond .lt 20, 3) := by decide +kernel
theorem ddH_isThread_4 : decode cH_isThread 4 = .ok (.iload_n 1, 1) := by decide +kernel
theorem ddH_isThread_5 : decode cH_isThread 5 = .ok (.aload_n 0, 1) := by decide +kernel
theorem ddH_isThread_6 : decode cH_isThread 6 = .ok (.getfield 46, 3) := by decide +kernel
theorem ddH_isThread_9 : decode cH_isThread 9 = .ok (.getfield 76, 3) := by decide +kernel
theorem ddH_isThread_12 : decode cH_isThread 12 = .ok (.iconst 0, 1) := by decide +kernel
theorem ddH_isThread_13 : decode cH_isThread 13 = .ok (.iaload, 1) := by decide +kernel
theorem ddH_isThread_14 : decode cH_isThread 14 = .ok (.if_icmp .ge 7, 3) := by decide +kernel
theorem ddH_isThread_17 : decode cH_isThread 17 = .ok (.iconst 1, 1) := by decide +kernel
theorem ddH_isThread_18 : decode cH_isThread 18 = .ok (.goto 4, 3) := by decide +kernel
theorem ddH_isThread_21 : decode cH_isThread 21 = .ok (.iconst 0, 1) := by decide +kernel
theorem ddH_isThread_22 : decode cH_isThread 22 = .ok (.ireturn, 1) := by decide +kernel
set_option maxHeartbeats 2000000 in
theorem zBH_isThread_22 {G : GXM} {X : CxM} (hG : GokM G) (C : CoM G X cH_isThread "HomeFreed$Heap") (N : mLM X = 2) {d : Nat} (hD : dpM X = d) (hd : 0 ≤ d)  {q : Int32 × Mem} (E : EnM G X (some .boolean) (some (.int q.1)) q.2 0 0) {w0 : Int32} {M : Mem} (h : BH_isThread_22 w0 M = some q) : ZM G X 22 [] [.int w0] M 0 0 := by
  unfold BH_isThread_22 at h
  obtain ⟨h1, h⟩ := gdN h
  obtain rfl := Option.some.inj h
  exact zz_zret C (of_decide_eq_true h1) E ddH_isThread_22
set_option maxHeartbeats 2000000 in
theorem zBH_isThread_21 {G : GXM} {X : CxM} (hG : GokM G) (C : CoM G X cH_isThread "HomeFreed$Heap") (N : mLM X = 2) {d : Nat} (hD : dpM X = d) (hd : 0 ≤ d)  {q : Int32 × Mem} (E : EnM G X (some .boolean) (some (.int q.1)) q.2 0 0) {M : Mem} (h : BH_isThread_21 M = some q) : ZM G X 21 [] [] M 0 0 := by
  unfold BH_isThread_21 at h
  refine zz_iconst (v := 0) C ddH_isThread_21 (by decide) ?_
  exact zBH_isThread_22 hG C N hD hd E h
set_option maxHeartbeats 2000000 in
theorem xH_isThread {G : GXM} {l : Launch} (hG : GokM G) (d : Nat) (hd : 0 ≤ d) {v0 : Nat} {v1 : Int32} {M : Mem} {q : Int32 × Mem} (h : fH_isThread v0 v1 M = some q) : ExM G l d 0 0 yH_isThread cH_isThread 2 (some .boolean) [.ref v0, .int v1] M (some (.int q.1)) q.2 := by
  refine ex_of hG (by decide +kernel) (Nat.le_of_ble_eq_true rfl) ?_
  intro X hl C E N hD hn
  show ZM G X 0 [(0, .ref v0), (1, .int v1)] [] M 0 0
  unfold fH_isThread at h
  refine zz_iload_n C 1 ddH_isThread_0 rfl rfl ?_
  refine zz_if_lt (tgt := 21) C ddH_isThread_1 rfl (fun hc => ?_) (fun hc => ?_)
  · replace h := iteT h hc
    refine zz_loc (L1 := []) [] rfl ?_
    exact zBH_isThread_21 hG C N hD hd E h
  · replace h := iteF h hc
    refine zz_iload_n C 1 ddH_isThread_4 rfl rfl ?_
    refine zz_aload_n C 0 ddH_isThread_5 rfl rfl ?_
    obtain ⟨h1, h⟩ := gdN h
    obtain ⟨h2, h⟩ := gdN h
    refine zz_getr C ddH_isThread_6 fl_H_46 rfl h1 (of_decide_eq_true h2) ?_
    obtain ⟨h3, h⟩ := gdN h
    obtain ⟨h4, h⟩ := gdN h
    refine zz_getr C ddH_isThread_9 fl_H_76 rfl h3 (of_decide_eq_true h4) ?_
    refine zz_iconst (v := 0) C ddH_isThread_12 (by decide) ?_
    obtain ⟨h5, h⟩ := gdN h
    refine zz_iaload C ddH_isThread_13 h5 ?_
    refine zz_icmp_ge (tgt := 21) C ddH_isThread_14 rfl (fun hc => ?_) (fun hc => ?_)
    · replace h := iteT h hc
      refine zz_loc (L1 := []) [] rfl ?_
      exact zBH_isThread_21 hG C N hD hd E h
    · replace h := iteF h hc
      refine zz_iconst (v := 1) C ddH_isThread_17 (by decide) ?_
      refine zz_goto (tgt := 22) C ddH_isThread_18 rfl ?_
      refine zz_loc (L1 := []) [] rfl ?_
      exact zBH_isThread_22 hG C N hD hd E h
theorem ddH_isLiving_0 : decode cH_isLiving 0 = .ok (.aload_n 0, 1) := by decide +kernel
theorem ddH_isLiving_1 : decode cH_isLiving 1 = .ok (.iload_n 1, 1) := by decide +kernel
theorem ddH_isLiving_2 : decode cH_isLiving 2 = .ok (.invokevirtual 81, 3) := by decide +kernel
theorem ddH_isLiving_5 : decode cH_isLiving 5 = .ok (.ifCond .eq 17, 3) := by decide +kernel
theorem ddH_isLiving_8 : decode cH_isLiving 8 = .ok (.aload_n 0, 1) := by decide +kernel
theorem ddH_isLiving_9 : decode cH_isLiving 9 = .ok (.getfield 33, 3) := by decide +kernel
theorem ddH_isLiving_12 : decode cH_isLiving 12 = .ok (.iload_n 1, 1) := by decide +kernel
theorem ddH_isLiving_13 : decode cH_isLiving 13 = .ok (.iaload, 1) := by decide +kernel
theorem ddH_isLiving_14 : decode cH_isLiving 14 = .ok (.iconst 1, 1) := by decide +kernel
theorem ddH_isLiving_15 : decode cH_isLiving 15 = .ok (.if_icmp .ne 7, 3) := by decide +kernel
theorem ddH_isLiving_18 : decode cH_isLiving 18 = .ok (.iconst 1, 1) := by decide +kernel
theorem ddH_isLiving_19 : decode cH_isLiving 19 = .ok (.goto 4, 3) := by decide +kernel
theorem ddH_isLiving_22 : decode cH_isLiving 22 = .ok (.iconst 0, 1) := by decide +kernel
theorem ddH_isLiving_23 : decode cH_isLiving 23 = .ok (.ireturn, 1) := by decide +kernel
set_option maxHeartbeats 2000000 in
theorem zBH_isLiving_23 {G : GXM} {X : CxM} (hG : GokM G) (C : CoM G X cH_isLiving "HomeFreed$Heap") (N : mLM X = 2) {d : Nat} (hD : dpM X = d) (hd : 1 ≤ d)  {q : Int32 × Mem} (E : EnM G X (some .boolean) (some (.int q.1)) q.2 0 0) {w0 : Int32} {M : Mem} (h : BH_isLiving_23 w0 M = some q) : ZM G X 23 [] [.int w0] M 0 0 := by
  unfold BH_isLiving_23 at h
  obtain ⟨h1, h⟩ := gdN h
  obtain rfl := Option.some.inj h
  exact zz_zret C (of_decide_eq_true h1) E ddH_isLiving_23
set_option maxHeartbeats 2000000 in
theorem zBH_isLiving_22 {G : GXM} {X : CxM} (hG : GokM G) (C : CoM G X cH_isLiving "HomeFreed$Heap") (N : mLM X = 2) {d : Nat} (hD : dpM X = d) (hd : 1 ≤ d)  {q : Int32 × Mem} (E : EnM G X (some .boolean) (some (.int q.1)) q.2 0 0) {M : Mem} (h : BH_isLiving_22 M = some q) : ZM G X 22 [] [] M 0 0 := by
  unfold BH_isLiving_22 at h
  refine zz_iconst (v := 0) C ddH_isLiving_22 (by decide) ?_
  exact zBH_isLiving_23 hG C N hD hd E h
set_option maxHeartbeats 2000000 in
theorem xH_isLiving {G : GXM} {l : Launch} (hG : GokM G) (d : Nat) (hd : 1 ≤ d) {v0 : Nat} {v1 : Int32} {M : Mem} {q : Int32 × Mem} (h : fH_isLiving v0 v1 M = some q) : ExM G l d 0 0 yH_isLiving cH_isLiving 2 (some .boolean) [.ref v0, .int v1] M (some (.int q.1)) q.2 := by
  refine ex_of hG (by decide +kernel) (Nat.le_of_ble_eq_true rfl) ?_
  intro X hl C E N hD hn
  show ZM G X 0 [(0, .ref v0), (1, .int v1)] [] M 0 0
  unfold fH_isLiving at h
  refine zz_aload_n C 0 ddH_isLiving_0 rfl rfl ?_
  refine zz_iload_n C 1 ddH_isLiving_1 rfl rfl ?_
  obtain ⟨h2, h⟩ := gdN h
  obtain ⟨q1, hq1, h⟩ := bindN h
  refine zz_callV0 (As := [.int v1]) C ddH_isLiving_2 wd_610 my_H_isThread mv_H_isThread ⟨_, rfl, rfl⟩ (xH_isThread hG (d - 1) (by omega) hq1) (by omega) h2 rfl rfl (Nat.le_of_ble_eq_true rfl) ?_
  refine zz_if_eq (tgt := 22) C ddH_isLiving_5 rfl (fun hc => ?_) (fun hc => ?_)
  · replace h := iteT h hc
    refine zz_loc (L1 := []) [] rfl ?_
    exact zBH_isLiving_22 hG C N hD hd E h
  · replace h := iteF h hc
    refine zz_aload_n C 0 ddH_isLiving_8 rfl rfl ?_
    obtain ⟨h3, h⟩ := gdN h
    obtain ⟨h4, h⟩ := gdN h
    refine zz_getr C ddH_isLiving_9 fl_H_33 rfl h3 (of_decide_eq_true h4) ?_
    refine zz_iload_n C 1 ddH_isLiving_12 rfl rfl ?_
    obtain ⟨h5, h⟩ := gdN h
    refine zz_iaload C ddH_isLiving_13 h5 ?_
    refine zz_iconst (v := 1) C ddH_isLiving_14 (by decide) ?_
    refine zz_icmp_ne (tgt := 22) C ddH_isLiving_15 rfl (fun hc => ?_) (fun hc => ?_)
    · replace h := iteF h hc
      refine zz_loc (L1 := []) [] rfl ?_
      exact zBH_isLiving_22 hG C N hD hd E h
    · replace h := iteT h hc
      refine zz_iconst (v := 1) C ddH_isLiving_18 (by decide) ?_
      refine zz_goto (tgt := 23) C ddH_isLiving_19 rfl ?_
      refine zz_loc (L1 := []) [] rfl ?_
      exact zBH_isLiving_23 hG C N hD hd E h
theorem ddH_pagesOf_0 : decode cH_pagesOf 0 = .ok (.iconst 0, 1) := by decide +kernel
theorem ddH_pagesOf_1 : decode cH_pagesOf 1 = .ok (.istore_n 2, 1) := by decide +kernel
theorem ddH_pagesOf_2 : decode cH_pagesOf 2 = .ok (.iconst 0, 1) := by decide +kernel
theorem ddH_pagesOf_3 : decode cH_pagesOf 3 = .ok (.istore_n 3, 1) := by decide +kernel
theorem ddH_pagesOf_4 : decode cH_pagesOf 4 = .ok (.iload_n 3, 1) := by decide +kernel
theorem ddH_pagesOf_5 : decode cH_pagesOf 5 = .ok (.aload_n 0, 1) := by decide +kernel
theorem ddH_pagesOf_6 : decode cH_pagesOf 6 = .ok (.getfield 46, 3) := by decide +kernel
theorem ddH_pagesOf_9 : decode cH_pagesOf 9 = .ok (.getfield 76, 3) := by decide +kernel
theorem ddH_pagesOf_12 : decode cH_pagesOf 12 = .ok (.iconst 1, 1) := by decide +kernel
theorem ddH_pagesOf_13 : decode cH_pagesOf 13 = .ok (.iaload, 1) := by decide +kernel
theorem ddH_pagesOf_14 : decode cH_pagesOf 14 = .ok (.if_icmp .ge 27, 3) := by decide +kernel
theorem ddH_pagesOf_17 : decode cH_pagesOf 17 = .ok (.iload_n 2, 1) := by decide +kernel
theorem ddH_pagesOf_18 : decode cH_pagesOf 18 = .ok (.aload_n 0, 1) := by decide +kernel
theorem ddH_pagesOf_19 : decode cH_pagesOf 19 = .ok (.getfield 15, 3) := by decide +kernel
theorem ddH_pagesOf_22 : decode cH_pagesOf 22 = .ok (.iload_n 3, 1) := by decide +kernel
theorem ddH_pagesOf_23 : decode cH_pagesOf 23 = .ok (.iaload, 1) := by decide +kernel
theorem ddH_pagesOf_24 : decode cH_pagesOf 24 = .ok (.iload_n 1, 1) := by decide +kernel
theorem ddH_pagesOf_25 : decode cH_pagesOf 25 = .ok (.if_icmp .ne 7, 3) := by decide +kernel
theorem ddH_pagesOf_28 : decode cH_pagesOf 28 = .ok (.iconst 1, 1) := by decide +kernel
theorem ddH_pagesOf_29 : decode cH_pagesOf 29 = .ok (.goto 4, 3) := by decide +kernel
theorem ddH_pagesOf_32 : decode cH_pagesOf 32 = .ok (.iconst 0, 1) := by decide +kernel
theorem ddH_pagesOf_33 : decode cH_pagesOf 33 = .ok (.iadd, 1) := by decide +kernel
theorem ddH_pagesOf_34 : decode cH_pagesOf 34 = .ok (.istore_n 2, 1) := by decide +kernel
theorem ddH_pagesOf_35 : decode cH_pagesOf 35 = .ok (.iinc 3 1, 3) := by decide +kernel
theorem ddH_pagesOf_38 : decode cH_pagesOf 38 = .ok (.goto (-34), 3) := by decide +kernel
theorem ddH_pagesOf_41 : decode cH_pagesOf 41 = .ok (.iload_n 2, 1) := by decide +kernel
theorem ddH_pagesOf_42 : decode cH_pagesOf 42 = .ok (.ireturn, 1) := by decide +kernel
set_option maxHeartbeats 2000000 in
theorem zBH_pagesOf_33 {G : GXM} {X : CxM} (hG : GokM G) (C : CoM G X cH_pagesOf "HomeFreed$Heap") (N : mLM X = 4) {d : Nat} (hD : dpM X = d) (hd : 0 ≤ d) {v0 : Nat} {v1 : Int32} {K : Nat → Int32 → Int32 → Int32 → Mem → Option ((Int32 × Mem))} {q : (Int32 × Mem)} (hK : ∀ (v2 : Int32) (v3 : Int32) (M : Mem), K v0 v1 v2 v3 M = some q → ZM G X 4 [(0, .ref v0), (1, .int v1), (2, .int v2), (3, .int v3)] [] M 0 0) (hr : ∀ r : Int32 × Mem, q =  r → EnM G X (some .int) (some (.int r.1)) r.2 0 0) {v3 : Int32} {w0 : Int32} {w1 : Int32} {M : Mem} (h : BH_pagesOf_33 K v0 v1 v3 w0 w1 M = some q) : ZM G X 33 [(0, .ref v0), (1, .int v1), (3, .int v3)] [.int w1, .int w0] M 0 0 := by
  unfold BH_pagesOf_33 at h
  refine zz_iadd C ddH_pagesOf_33 ?_
  refine zz_istore_n (L1 := [(2, .int (w0 + w1)), (0, .ref v0), (1, .int v1), (3, .int v3)]) C ddH_pagesOf_34 rfl N (by decide) rfl ?_
  refine zz_iinc (v := v3 + 1) (L1 := [(3, .int (v3 + 1)), (2, .int (w0 + w1)), (0, .ref v0), (1, .int v1)]) C 3 ddH_pagesOf_35 rfl rfl N (by decide) rfl ?_
  refine zz_goto (tgt := 4) C ddH_pagesOf_38 rfl ?_
  refine zz_loc (L1 := [(0, .ref v0), (1, .int v1), (2, .int (w0 + w1)), (3, .int (v3 + 1))]) [2, 3, 1, 0] rfl ?_
  exact hK _ _ _ h
set_option maxHeartbeats 2000000 in
theorem zBH_pagesOf_4 {G : GXM} {X : CxM} (hG : GokM G) (C : CoM G X cH_pagesOf "HomeFreed$Heap") (N : mLM X = 4) {d : Nat} (hD : dpM X = d) (hd : 0 ≤ d) {v0 : Nat} {v1 : Int32} {K : Nat → Int32 → Int32 → Int32 → Mem → Option ((Int32 × Mem))} {q : (Int32 × Mem)} (hK : ∀ (v2 : Int32) (v3 : Int32) (M : Mem), K v0 v1 v2 v3 M = some q → ZM G X 4 [(0, .ref v0), (1, .int v1), (2, .int v2), (3, .int v3)] [] M 0 0) (hr : ∀ r : Int32 × Mem, q =  r → EnM G X (some .int) (some (.int r.1)) r.2 0 0) {v2 : Int32} {v3 : Int32} {M : Mem} (h : BH_pagesOf_4 K v0 v1 v2 v3 M = some q) : ZM G X 4 [(0, .ref v0), (1, .int v1), (2, .int v2), (3, .int v3)] [] M 0 0 := by
  unfold BH_pagesOf_4 at h
  refine zz_iload_n C 3 ddH_pagesOf_4 rfl rfl ?_
  refine zz_aload_n C 0 ddH_pagesOf_5 rfl rfl ?_
  obtain ⟨h1, h⟩ := gdN h
  obtain ⟨h2, h⟩ := gdN h
  refine zz_getr C ddH_pagesOf_6 fl_H_46 rfl h1 (of_decide_eq_true h2) ?_
  obtain ⟨h3, h⟩ := gdN h
  obtain ⟨h4, h⟩ := gdN h
  refine zz_getr C ddH_pagesOf_9 fl_H_76 rfl h3 (of_decide_eq_true h4) ?_
  refine zz_iconst (v := 1) C ddH_pagesOf_12 (by decide) ?_
  obtain ⟨h5, h⟩ := gdN h
  refine zz_iaload C ddH_pagesOf_13 h5 ?_
  refine zz_icmp_ge (tgt := 41) C ddH_pagesOf_14 rfl (fun hc => ?_) (fun hc => ?_)
  · replace h := iteT h hc
    refine zz_iload_n C 2 ddH_pagesOf_41 rfl rfl ?_
    exact zz_iret C (hr _ (Option.some.inj h).symm) ddH_pagesOf_42
  · replace h := iteF h hc
    refine zz_iload_n C 2 ddH_pagesOf_17 rfl rfl ?_
    refine zz_aload_n C 0 ddH_pagesOf_18 rfl rfl ?_
    obtain ⟨h6, h⟩ := gdN h
    refine zz_getr C ddH_pagesOf_19 fl_H_15 rfl h1 (of_decide_eq_true h6) ?_
    refine zz_iload_n C 3 ddH_pagesOf_22 rfl rfl ?_
    obtain ⟨h7, h⟩ := gdN h
    refine zz_iaload C ddH_pagesOf_23 h7 ?_
    refine zz_iload_n C 1 ddH_pagesOf_24 rfl rfl ?_
    refine zz_icmp_ne (tgt := 32) C ddH_pagesOf_25 rfl (fun hc => ?_) (fun hc => ?_)
    · replace h := iteF h hc
      refine zz_iconst (v := 0) C ddH_pagesOf_32 (by decide) ?_
      refine zz_loc (L1 := [(0, .ref v0), (1, .int v1), (3, .int v3)]) [0, 1, 3] rfl ?_
      exact zBH_pagesOf_33 hG C N hD hd hK hr h
    · replace h := iteT h hc
      refine zz_iconst (v := 1) C ddH_pagesOf_28 (by decide) ?_
      refine zz_goto (tgt := 33) C ddH_pagesOf_29 rfl ?_
      refine zz_loc (L1 := [(0, .ref v0), (1, .int v1), (3, .int v3)]) [0, 1, 3] rfl ?_
      exact zBH_pagesOf_33 hG C N hD hd hK hr h
set_option maxHeartbeats 2000000 in
theorem zLH_pagesOf_4 {G : GXM} {X : CxM} (hG : GokM G) (C : CoM G X cH_pagesOf "HomeFreed$Heap") (N : mLM X = 4) {d : Nat} (hD : dpM X = d) (hd : 0 ≤ d) {v0 : Nat} {v1 : Int32} {q : (Int32 × Mem)} : ∀ (f : Nat) (v2 : Int32) (v3 : Int32) (M : Mem), LH_pagesOf_4 f v0 v1 v2 v3 M = some q → (hr : ∀ r : Int32 × Mem, q =  r → EnM G X (some .int) (some (.int r.1)) r.2 0 0) → ZM G X 4 [(0, .ref v0), (1, .int v1), (2, .int v2), (3, .int v3)] [] M 0 0 := by
  intro f
  induction f with
  | zero => intro v2 v3 M h; cases h
  | succ f ih =>
    intro v2 v3 M h hr
    exact zBH_pagesOf_4 hG C N hD hd (K := LH_pagesOf_4 f) (q := q) (fun v2 v3 M h => ih v2 v3 M h hr) hr h
set_option maxHeartbeats 2000000 in
theorem xH_pagesOf {G : GXM} {l : Launch} (hG : GokM G) (d : Nat) (hd : 0 ≤ d) {v0 : Nat} {v1 : Int32} {M : Mem} {q : Int32 × Mem} (h : fH_pagesOf v0 v1 M = some q) : ExM G l d 0 0 yH_pagesOf cH_pagesOf 4 (some .int) [.ref v0, .int v1] M (some (.int q.1)) q.2 := by
  refine ex_of hG (by decide +kernel) (Nat.le_of_ble_eq_true rfl) ?_
  intro X hl C E N hD hn
  show ZM G X 0 [(0, .ref v0), (1, .int v1)] [] M 0 0
  unfold fH_pagesOf at h
  refine zz_iconst (v := 0) C ddH_pagesOf_0 (by decide) ?_
  refine zz_istore_n (L1 := [(2, .int 0), (0, .ref v0), (1, .int v1)]) C ddH_pagesOf_1 rfl N (by decide) rfl ?_
  refine zz_iconst (v := 0) C ddH_pagesOf_2 (by decide) ?_
  refine zz_istore_n (L1 := [(3, .int 0), (2, .int 0), (0, .ref v0), (1, .int v1)]) C ddH_pagesOf_3 rfl N (by decide) rfl ?_
  refine zz_loc (L1 := [(0, .ref v0), (1, .int v1), (2, .int 0), (3, .int 0)]) [2, 3, 1, 0] rfl ?_
  obtain ⟨q1, hq1, h⟩ := bindN h
  refine zLH_pagesOf_4 hG C N hD hd 1000000 _ _ _ hq1 ?_
  · intro r2 eq1; replace eq1 := eq1.symm; subst eq1
    obtain rfl := Option.some.inj h
    exact E
theorem ddH_outboxOf_0 : decode cH_outboxOf 0 = .ok (.bipush 48, 2) := by decide +kernel
theorem ddH_outboxOf_2 : decode cH_outboxOf 2 = .ok (.iload_n 1, 1) := by decide +kernel
theorem ddH_outboxOf_3 : decode cH_outboxOf 3 = .ok (.bipush 16, 2) := by decide +kernel
theorem ddH_outboxOf_5 : decode cH_outboxOf 5 = .ok (.imul, 1) := by decide +kernel
theorem ddH_outboxOf_6 : decode cH_outboxOf 6 = .ok (.iadd, 1) := by decide +kernel
theorem ddH_outboxOf_7 : decode cH_outboxOf 7 = .ok (.iload_n 2, 1) := by decide +kernel
theorem ddH_outboxOf_8 : decode cH_outboxOf 8 = .ok (.iadd, 1) := by decide +kernel
theorem ddH_outboxOf_9 : decode cH_outboxOf 9 = .ok (.ireturn, 1) := by decide +kernel
set_option maxHeartbeats 2000000 in
theorem xH_outboxOf {G : GXM} {l : Launch} (hG : GokM G) (d : Nat) (hd : 0 ≤ d) {v0 : Nat} {v1 : Int32} {v2 : Int32} {M : Mem} {q : Int32 × Mem} (h : fH_outboxOf v0 v1 v2 M = some q) : ExM G l d 0 0 yH_outboxOf cH_outboxOf 3 (some .int) [.ref v0, .int v1, .int v2] M (some (.int q.1)) q.2 := by
  refine ex_of hG (by decide +kernel) (Nat.le_of_ble_eq_true rfl) ?_
  intro X hl C E N hD hn
  show ZM G X 0 [(0, .ref v0), (1, .int v1), (2, .int v2)] [] M 0 0
  unfold fH_outboxOf at h
  refine zz_bipush (v := 48) C ddH_outboxOf_0 (by decide) ?_
  refine zz_iload_n C 1 ddH_outboxOf_2 rfl rfl ?_
  refine zz_bipush (v := 16) C ddH_outboxOf_3 (by decide) ?_
  refine zz_imul C ddH_outboxOf_5 ?_
  refine zz_iadd C ddH_outboxOf_6 ?_
  refine zz_iload_n C 2 ddH_outboxOf_7 rfl rfl ?_
  refine zz_iadd C ddH_outboxOf_8 ?_
  obtain rfl := Option.some.inj h
  exact zz_iret C E ddH_outboxOf_9
theorem ddH_outOf_0 : decode cH_outOf 0 = .ok (.iconst 0, 1) := by decide +kernel
theorem ddH_outOf_1 : decode cH_outOf 1 = .ok (.istore_n 2, 1) := by decide +kernel
theorem ddH_outOf_2 : decode cH_outOf 2 = .ok (.iconst 0, 1) := by decide +kernel
theorem ddH_outOf_3 : decode cH_outOf 3 = .ok (.istore_n 3, 1) := by decide +kernel
theorem ddH_outOf_4 : decode cH_outOf 4 = .ok (.iload_n 3, 1) := by decide +kernel
theorem ddH_outOf_5 : decode cH_outOf 5 = .ok (.aload_n 0, 1) := by decide +kernel
theorem ddH_outOf_6 : decode cH_outOf 6 = .ok (.getfield 46, 3) := by decide +kernel
theorem ddH_outOf_9 : decode cH_outOf 9 = .ok (.getfield 76, 3) := by decide +kernel
theorem ddH_outOf_12 : decode cH_outOf 12 = .ok (.iconst 1, 1) := by decide +kernel
theorem ddH_outOf_13 : decode cH_outOf 13 = .ok (.iaload, 1) := by decide +kernel
theorem ddH_outOf_14 : decode cH_outOf 14 = .ok (.if_icmp .ge 26, 3) := by decide +kernel
theorem ddH_outOf_17 : decode cH_outOf 17 = .ok (.iload_n 2, 1) := by decide +kernel
theorem ddH_outOf_18 : decode cH_outOf 18 = .ok (.aload_n 0, 1) := by decide +kernel
theorem ddH_outOf_19 : decode cH_outOf 19 = .ok (.getfield 30, 3) := by decide +kernel
theorem ddH_outOf_22 : decode cH_outOf 22 = .ok (.getfield 95, 3) := by decide +kernel
theorem ddH_outOf_25 : decode cH_outOf 25 = .ok (.aload_n 0, 1) := by decide +kernel
theorem ddH_outOf_26 : decode cH_outOf 26 = .ok (.iload_n 1, 1) := by decide +kernel
theorem ddH_outOf_27 : decode cH_outOf 27 = .ok (.iload_n 3, 1) := by decide +kernel
theorem ddH_outOf_28 : decode cH_outOf 28 = .ok (.invokevirtual 98, 3) := by decide +kernel
theorem ddH_outOf_31 : decode cH_outOf 31 = .ok (.iaload, 1) := by decide +kernel
theorem ddH_outOf_32 : decode cH_outOf 32 = .ok (.iadd, 1) := by decide +kernel
theorem ddH_outOf_33 : decode cH_outOf 33 = .ok (.istore_n 2, 1) := by decide +kernel
theorem ddH_outOf_34 : decode cH_outOf 34 = .ok (.iinc 3 1, 3) := by decide +kernel
theorem ddH_outOf_37 : decode cH_outOf 37 = .ok (.goto (-33), 3) := by decide +kernel
theorem ddH_outOf_40 : decode cH_outOf 40 = .ok (.iload_n 2, 1) := by decide +kernel
theorem ddH_outOf_41 : decode cH_outOf 41 = .ok (.ireturn, 1) := by decide +kernel
set_option maxHeartbeats 2000000 in
theorem zBH_outOf_4 {G : GXM} {X : CxM} (hG : GokM G) (C : CoM G X cH_outOf "HomeFreed$Heap") (N : mLM X = 4) {d : Nat} (hD : dpM X = d) (hd : 1 ≤ d) {v0 : Nat} {v1 : Int32} {K : Nat → Int32 → Int32 → Int32 → Mem → Option ((Int32 × Mem))} {q : (Int32 × Mem)} (hK : ∀ (v2 : Int32) (v3 : Int32) (M : Mem), K v0 v1 v2 v3 M = some q → ZM G X 4 [(0, .ref v0), (1, .int v1), (2, .int v2), (3, .int v3)] [] M 0 0) (hr : ∀ r : Int32 × Mem, q =  r → EnM G X (some .int) (some (.int r.1)) r.2 0 0) {v2 : Int32} {v3 : Int32} {M : Mem} (h : BH_outOf_4 K v0 v1 v2 v3 M = some q) : ZM G X 4 [(0, .ref v0), (1, .int v1), (2, .int v2), (3, .int v3)] [] M 0 0 := by
  unfold BH_outOf_4 at h
  refine zz_iload_n C 3 ddH_outOf_4 rfl rfl ?_
  refine zz_aload_n C 0 ddH_outOf_5 rfl rfl ?_
  obtain ⟨h1, h⟩ := gdN h
  obtain ⟨h2, h⟩ := gdN h
  refine zz_getr C ddH_outOf_6 fl_H_46 rfl h1 (of_decide_eq_true h2) ?_
  obtain ⟨h3, h⟩ := gdN h
  obtain ⟨h4, h⟩ := gdN h
  refine zz_getr C ddH_outOf_9 fl_H_76 rfl h3 (of_decide_eq_true h4) ?_
  refine zz_iconst (v := 1) C ddH_outOf_12 (by decide) ?_
  obtain ⟨h5, h⟩ := gdN h
  refine zz_iaload C ddH_outOf_13 h5 ?_
  refine zz_icmp_ge (tgt := 40) C ddH_outOf_14 rfl (fun hc => ?_) (fun hc => ?_)
  · replace h := iteT h hc
    refine zz_iload_n C 2 ddH_outOf_40 rfl rfl ?_
    exact zz_iret C (hr _ (Option.some.inj h).symm) ddH_outOf_41
  · replace h := iteF h hc
    refine zz_iload_n C 2 ddH_outOf_17 rfl rfl ?_
    refine zz_aload_n C 0 ddH_outOf_18 rfl rfl ?_
    obtain ⟨h6, h⟩ := gdN h
    refine zz_getr C ddH_outOf_19 fl_H_30 rfl h1 (of_decide_eq_true h6) ?_
    obtain ⟨h7, h⟩ := gdN h
    obtain ⟨h8, h⟩ := gdN h
    refine zz_getr C ddH_outOf_22 fl_H_95 rfl h7 (of_decide_eq_true h8) ?_
    refine zz_aload_n C 0 ddH_outOf_25 rfl rfl ?_
    refine zz_iload_n C 1 ddH_outOf_26 rfl rfl ?_
    refine zz_iload_n C 3 ddH_outOf_27 rfl rfl ?_
    obtain ⟨q9, hq9, h⟩ := bindN h
    refine zz_callV0 (As := [.int v1, .int v3]) C ddH_outOf_28 wd_619 my_H_outboxOf mv_H_outboxOf ⟨_, rfl, rfl⟩ (xH_outboxOf hG (d - 1) (by omega) hq9) (by omega) h1 rfl rfl (Nat.le_of_ble_eq_true rfl) ?_
    obtain ⟨h10, h⟩ := gdN h
    refine zz_iaload C ddH_outOf_31 h10 ?_
    refine zz_iadd C ddH_outOf_32 ?_
    refine zz_istore_n (L1 := [(2, .int (v2 + (giM q9.2 (grM M (grM M v0 5) 1) (Int32.toNatClampNeg q9.1)))), (0, .ref v0), (1, .int v1), (3, .int v3)]) C ddH_outOf_33 rfl N (by decide) rfl ?_
    refine zz_iinc (v := v3 + 1) (L1 := [(3, .int (v3 + 1)), (2, .int (v2 + (giM q9.2 (grM M (grM M v0 5) 1) (Int32.toNatClampNeg q9.1)))), (0, .ref v0), (1, .int v1)]) C 3 ddH_outOf_34 rfl rfl N (by decide) rfl ?_
    refine zz_goto (tgt := 4) C ddH_outOf_37 rfl ?_
    refine zz_loc (L1 := [(0, .ref v0), (1, .int v1), (2, .int (v2 + (giM q9.2 (grM M (grM M v0 5) 1) (Int32.toNatClampNeg q9.1)))), (3, .int (v3 + 1))]) [2, 3, 1, 0] rfl ?_
    exact hK _ _ _ h
set_option maxHeartbeats 2000000 in
theorem zLH_outOf_4 {G : GXM} {X : CxM} (hG : GokM G) (C : CoM G X cH_outOf "HomeFreed$Heap") (N : mLM X = 4) {d : Nat} (hD : dpM X = d) (hd : 1 ≤ d) {v0 : Nat} {v1 : Int32} {q : (Int32 × Mem)} : ∀ (f : Nat) (v2 : Int32) (v3 : Int32) (M : Mem), LH_outOf_4 f v0 v1 v2 v3 M = some q → (hr : ∀ r : Int32 × Mem, q =  r → EnM G X (some .int) (some (.int r.1)) r.2 0 0) → ZM G X 4 [(0, .ref v0), (1, .int v1), (2, .int v2), (3, .int v3)] [] M 0 0 := by
  intro f
  induction f with
  | zero => intro v2 v3 M h; cases h
  | succ f ih =>
    intro v2 v3 M h hr
    exact zBH_outOf_4 hG C N hD hd (K := LH_outOf_4 f) (q := q) (fun v2 v3 M h => ih v2 v3 M h hr) hr h
set_option maxHeartbeats 2000000 in
theorem xH_outOf {G : GXM} {l : Launch} (hG : GokM G) (d : Nat) (hd : 1 ≤ d) {v0 : Nat} {v1 : Int32} {M : Mem} {q : Int32 × Mem} (h : fH_outOf v0 v1 M = some q) : ExM G l d 0 0 yH_outOf cH_outOf 4 (some .int) [.ref v0, .int v1] M (some (.int q.1)) q.2 := by
  refine ex_of hG (by decide +kernel) (Nat.le_of_ble_eq_true rfl) ?_
  intro X hl C E N hD hn
  show ZM G X 0 [(0, .ref v0), (1, .int v1)] [] M 0 0
  unfold fH_outOf at h
  refine zz_iconst (v := 0) C ddH_outOf_0 (by decide) ?_
  refine zz_istore_n (L1 := [(2, .int 0), (0, .ref v0), (1, .int v1)]) C ddH_outOf_1 rfl N (by decide) rfl ?_
  refine zz_iconst (v := 0) C ddH_outOf_2 (by decide) ?_
  refine zz_istore_n (L1 := [(3, .int 0), (2, .int 0), (0, .ref v0), (1, .int v1)]) C ddH_outOf_3 rfl N (by decide) rfl ?_
  refine zz_loc (L1 := [(0, .ref v0), (1, .int v1), (2, .int 0), (3, .int 0)]) [2, 3, 1, 0] rfl ?_
  obtain ⟨q1, hq1, h⟩ := bindN h
  refine zLH_outOf_4 hG C N hD hd 1000000 _ _ _ hq1 ?_
  · intro r2 eq1; replace eq1 := eq1.symm; subst eq1
    obtain rfl := Option.some.inj h
    exact E
theorem ddA_thread_0 : decode cA_thread 0 = .ok (.aload_n 0, 1) := by decide +kernel
theorem ddA_thread_1 : decode cA_thread 1 = .ok (.getfield 55, 3) := by decide +kernel
theorem ddA_thread_4 : decode cA_thread 4 = .ok (.iload_n 1, 1) := by decide +kernel
theorem ddA_thread_5 : decode cA_thread 5 = .ok (.invokevirtual 187, 3) := by decide +kernel
theorem ddA_thread_8 : decode cA_thread 8 = .ok (.ifCond .ne 5, 3) := by decide +kernel
theorem ddA_thread_11 : decode cA_thread 11 = .ok (.iconst (-1), 1) := by decide +kernel
theorem ddA_thread_12 : decode cA_thread 12 = .ok (.ireturn, 1) := by decide +kernel
theorem ddA_thread_13 : decode cA_thread 13 = .ok (.iload_n 2, 1) := by decide +kernel
theorem ddA_thread_14 : decode cA_thread 14 = .ok (.tableswitch 75 0 3 #[30, 47, 56, 66], 30) := by decide +kernel
theorem ddA_thread_44 : decode cA_thread 44 = .ok (.aload_n 0, 1) := by decide +kernel
theorem ddA_thread_45 : decode cA_thread 45 = .ok (.getfield 55, 3) := by decide +kernel
theorem ddA_thread_48 : decode cA_thread 48 = .ok (.iload_n 1, 1) := by decide +kernel
theorem ddA_thread_49 : decode cA_thread 49 = .ok (.invokevirtual 190, 3) := by decide +kernel
theorem ddA_thread_52 : decode cA_thread 52 = .ok (.ifCond .eq 7, 3) := by decide +kernel
theorem ddA_thread_55 : decode cA_thread 55 = .ok (.iconst 1, 1) := by decide +kernel
theorem ddA_thread_56 : decode cA_thread 56 = .ok (.goto 4, 3) := by decide +kernel
theorem ddA_thread_59 : decode cA_thread 59 = .ok (.iconst 0, 1) := by decide +kernel
theorem ddA_thread_60 : decode cA_thread 60 = .ok (.ireturn, 1) := by decide +kernel
theorem ddA_thread_61 : decode cA_thread 61 = .ok (.aload_n 0, 1) := by decide +kernel
theorem ddA_thread_62 : decode cA_thread 62 = .ok (.getfield 55, 3) := by decide +kernel
theorem ddA_thread_65 : decode cA_thread 65 = .ok (.iload_n 1, 1) := by decide +kernel
theorem ddA_thread_66 : decode cA_thread 66 = .ok (.invokevirtual 193, 3) := by decide +kernel
theorem ddA_thread_69 : decode cA_thread 69 = .ok (.ireturn, 1) := by decide +kernel
theorem ddA_thread_70 : decode cA_thread 70 = .ok (.aload_n 0, 1) := by decide +kernel
theorem ddA_thread_71 : decode cA_thread 71 = .ok (.getfield 55, 3) := by decide +kernel
theorem ddA_thread_74 : decode cA_thread 74 = .ok (.getfield 196, 3) := by decide +kernel
theorem ddA_thread_77 : decode cA_thread 77 = .ok (.iload_n 1, 1) := by decide +kernel
theorem ddA_thread_78 : decode cA_thread 78 = .ok (.iaload, 1) := by decide +kernel
theorem ddA_thread_79 : decode cA_thread 79 = .ok (.ireturn, 1) := by decide +kernel
theorem ddA_thread_80 : decode cA_thread 80 = .ok (.aload_n 0, 1) := by decide +kernel
theorem ddA_thread_81 : decode cA_thread 81 = .ok (.getfield 55, 3) := by decide +kernel
theorem ddA_thread_84 : decode cA_thread 84 = .ok (.iload_n 1, 1) := by decide +kernel
theorem ddA_thread_85 : decode cA_thread 85 = .ok (.invokevirtual 199, 3) := by decide +kernel
theorem ddA_thread_88 : decode cA_thread 88 = .ok (.ireturn, 1) := by decide +kernel
theorem ddA_thread_89 : decode cA_thread 89 = .ok (.iconst (-1), 1) := by decide +kernel
theorem ddA_thread_90 : decode cA_thread 90 = .ok (.ireturn, 1) := by decide +kernel
set_option maxHeartbeats 2000000 in
theorem zBA_thread_60 {G : GXM} {X : CxM} (hG : GokM G) (C : CoM G X cA_thread "HomeFreed") (N : mLM X = 3) {d : Nat} (hD : dpM X = d) (hd : 2 ≤ d)  {q : Int32 × Mem} (E : EnM G X (some .int) (some (.int q.1)) q.2 0 0) {w0 : Int32} {M : Mem} (h : BA_thread_60 w0 M = some q) : ZM G X 60 [] [.int w0] M 0 0 := by
  unfold BA_thread_60 at h
  obtain rfl := Option.some.inj h
  exact zz_iret C E ddA_thread_60
set_option maxHeartbeats 2000000 in
theorem xA_thread {G : GXM} {l : Launch} (hG : GokM G) (d : Nat) (hd : 2 ≤ d) {v0 : Nat} {v1 : Int32} {v2 : Int32} {M : Mem} {q : Int32 × Mem} (h : fA_thread v0 v1 v2 M = some q) : ExM G l d 0 0 yA_thread cA_thread 3 (some .int) [.ref v0, .int v1, .int v2] M (some (.int q.1)) q.2 := by
  refine ex_of hG (by decide +kernel) (Nat.le_of_ble_eq_true rfl) ?_
  intro X hl C E N hD hn
  show ZM G X 0 [(0, .ref v0), (1, .int v1), (2, .int v2)] [] M 0 0
  unfold fA_thread at h
  refine zz_aload_n C 0 ddA_thread_0 rfl rfl ?_
  obtain ⟨h1, h⟩ := gdN h
  obtain ⟨h2, h⟩ := gdN h
  refine zz_getr C ddA_thread_1 fl_A_55 rfl h1 (of_decide_eq_true h2) ?_
  refine zz_iload_n C 1 ddA_thread_4 rfl rfl ?_
  obtain ⟨h4, h⟩ := gdN h
  obtain ⟨q3, hq3, h⟩ := bindN h
  refine zz_callV0 (As := [.int v1]) C ddA_thread_5 wd_602 my_H_isThread mv_H_isThread ⟨_, rfl, rfl⟩ (xH_isThread hG (d - 1) (by omega) hq3) (by omega) h4 rfl rfl (Nat.le_of_ble_eq_true rfl) ?_
  refine zz_if_ne (tgt := 13) C ddA_thread_8 rfl (fun hc => ?_) (fun hc => ?_)
  · replace h := iteF h hc
    refine zz_iload_n C 2 ddA_thread_13 rfl rfl ?_
    by_cases hs14_0 : v2 = 0
    · replace h := iteT h hs14_0
      rw [hs14_0]
      refine zz_tableIn (tgt := 44) C ddA_thread_14 (by decide) (by decide) rfl rfl ?_
      refine zz_aload_n C 0 ddA_thread_44 rfl rfl ?_
      obtain ⟨h5, h⟩ := gdN h
      obtain ⟨h6, h⟩ := gdN h
      refine zz_getr C ddA_thread_45 fl_A_55 rfl h5 (of_decide_eq_true h6) ?_
      refine zz_iload_n C 1 ddA_thread_48 rfl rfl ?_
      obtain ⟨h8, h⟩ := gdN h
      obtain ⟨q7, hq7, h⟩ := bindN h
      refine zz_callV0 (As := [.int v1]) C ddA_thread_49 wd_606 my_H_isLiving mv_H_isLiving ⟨_, rfl, rfl⟩ (xH_isLiving hG (d - 1) (by omega) hq7) (by omega) h8 rfl rfl (Nat.le_of_ble_eq_true rfl) ?_
      refine zz_if_eq (tgt := 59) C ddA_thread_52 rfl (fun hc => ?_) (fun hc => ?_)
      · replace h := iteT h hc
        refine zz_iconst (v := 0) C ddA_thread_59 (by decide) ?_
        refine zz_loc (L1 := []) [] rfl ?_
        exact zBA_thread_60 hG C N hD hd E h
      · replace h := iteF h hc
        refine zz_iconst (v := 1) C ddA_thread_55 (by decide) ?_
        refine zz_goto (tgt := 60) C ddA_thread_56 rfl ?_
        refine zz_loc (L1 := []) [] rfl ?_
        exact zBA_thread_60 hG C N hD hd E h
    replace h := iteF h hs14_0
    by_cases hs14_1 : v2 = 1
    · replace h := iteT h hs14_1
      rw [hs14_1]
      refine zz_tableIn (tgt := 61) C ddA_thread_14 (by decide) (by decide) rfl rfl ?_
      refine zz_aload_n C 0 ddA_thread_61 rfl rfl ?_
      obtain ⟨h9, h⟩ := gdN h
      obtain ⟨h10, h⟩ := gdN h
      refine zz_getr C ddA_thread_62 fl_A_55 rfl h9 (of_decide_eq_true h10) ?_
      refine zz_iload_n C 1 ddA_thread_65 rfl rfl ?_
      obtain ⟨h12, h⟩ := gdN h
      obtain ⟨q11, hq11, h⟩ := bindN h
      refine zz_callV0 (As := [.int v1]) C ddA_thread_66 wd_611 my_H_pagesOf mv_H_pagesOf ⟨_, rfl, rfl⟩ (xH_pagesOf hG (d - 1) (by omega) hq11) (by omega) h12 rfl rfl (Nat.le_of_ble_eq_true rfl) ?_
      obtain rfl := Option.some.inj h
      exact zz_iret C E ddA_thread_69
    replace h := iteF h hs14_1
    by_cases hs14_2 : v2 = 2
    · replace h := iteT h hs14_2
      rw [hs14_2]
      refine zz_tableIn (tgt := 70) C ddA_thread_14 (by decide) (by decide) rfl rfl ?_
      refine zz_aload_n C 0 ddA_thread_70 rfl rfl ?_
      obtain ⟨h13, h⟩ := gdN h
      obtain ⟨h14, h⟩ := gdN h
      refine zz_getr C ddA_thread_71 fl_A_55 rfl h13 (of_decide_eq_true h14) ?_
      obtain ⟨h15, h⟩ := gdN h
      obtain ⟨h16, h⟩ := gdN h
      refine zz_getr C ddA_thread_74 fl_A_196 rfl h15 (of_decide_eq_true h16) ?_
      refine zz_iload_n C 1 ddA_thread_77 rfl rfl ?_
      obtain ⟨h17, h⟩ := gdN h
      refine zz_iaload C ddA_thread_78 h17 ?_
      obtain rfl := Option.some.inj h
      exact zz_iret C E ddA_thread_79
    replace h := iteF h hs14_2
    by_cases hs14_3 : v2 = 3
    · replace h := iteT h hs14_3
      rw [hs14_3]
      refine zz_tableIn (tgt := 80) C ddA_thread_14 (by decide) (by decide) rfl rfl ?_
      refine zz_aload_n C 0 ddA_thread_80 rfl rfl ?_
      obtain ⟨h18, h⟩ := gdN h
      obtain ⟨h19, h⟩ := gdN h
      refine zz_getr C ddA_thread_81 fl_A_55 rfl h18 (of_decide_eq_true h19) ?_
      refine zz_iload_n C 1 ddA_thread_84 rfl rfl ?_
      obtain ⟨h21, h⟩ := gdN h
      obtain ⟨q20, hq20, h⟩ := bindN h
      refine zz_callV0 (As := [.int v1]) C ddA_thread_85 wd_615 my_H_outOf mv_H_outOf ⟨_, rfl, rfl⟩ (xH_outOf hG (d - 1) (by omega) hq20) (by omega) h21 rfl rfl (Nat.le_of_ble_eq_true rfl) ?_
      obtain rfl := Option.some.inj h
      exact zz_iret C E ddA_thread_88
    replace h := iteF h hs14_3
    have ths14_0 := lv_neT (a := 0) hs14_0 (by decide)
    have ths14_1 := lv_neT (a := 1) hs14_1 (by decide)
    have ths14_2 := lv_neT (a := 2) hs14_2 (by decide)
    have ths14_3 := lv_neT (a := 3) hs14_3 (by decide)
    refine zz_tableOut (tgt := 89) C ddA_thread_14 (by omega) rfl ?_
    refine zz_iconst (v := (-1)) C ddA_thread_89 (by decide) ?_
    obtain rfl := Option.some.inj h
    exact zz_iret C E ddA_thread_90
  · replace h := iteT h hc
    refine zz_iconst (v := (-1)) C ddA_thread_11 (by decide) ?_
    obtain rfl := Option.some.inj h
    exact zz_iret C E ddA_thread_12
theorem ddH_queueOf_0 : decode cH_queueOf 0 = .ok (.iload_n 1, 1) := by decide +kernel
theorem ddH_queueOf_1 : decode cH_queueOf 1 = .ok (.bipush 6, 2) := by decide +kernel
theorem ddH_queueOf_3 : decode cH_queueOf 3 = .ok (.imul, 1) := by decide +kernel
theorem ddH_queueOf_4 : decode cH_queueOf 4 = .ok (.iload_n 2, 1) := by decide +kernel
theorem ddH_queueOf_5 : decode cH_queueOf 5 = .ok (.iadd, 1) := by decide +kernel
theorem ddH_queueOf_6 : decode cH_queueOf 6 = .ok (.ireturn, 1) := by decide +kernel
set_option maxHeartbeats 2000000 in
theorem xH_queueOf {G : GXM} {l : Launch} (hG : GokM G) (d : Nat) (hd : 0 ≤ d) {v0 : Nat} {v1 : Int32} {v2 : Int32} {M : Mem} {q : Int32 × Mem} (h : fH_queueOf v0 v1 v2 M = some q) : ExM G l d 0 0 yH_queueOf cH_queueOf 3 (some .int) [.ref v0, .int v1, .int v2] M (some (.int q.1)) q.2 := by
  refine ex_of hG (by decide +kernel) (Nat.le_of_ble_eq_true rfl) ?_
  intro X hl C E N hD hn
  show ZM G X 0 [(0, .ref v0), (1, .int v1), (2, .int v2)] [] M 0 0
  unfold fH_queueOf at h
  refine zz_iload_n C 1 ddH_queueOf_0 rfl rfl ?_
  refine zz_bipush (v := 6) C ddH_queueOf_1 (by decide) ?_
  refine zz_imul C ddH_queueOf_3 ?_
  refine zz_iload_n C 2 ddH_queueOf_4 rfl rfl ?_
  refine zz_iadd C ddH_queueOf_5 ?_
  obtain rfl := Option.some.inj h
  exact zz_iret C E ddH_queueOf_6
theorem ddA_queue_0 : decode cA_queue 0 = .ok (.aload_n 0, 1) := by decide +kernel
theorem ddA_queue_1 : decode cA_queue 1 = .ok (.getfield 55, 3) := by decide +kernel
theorem ddA_queue_4 : decode cA_queue 4 = .ok (.iload_n 1, 1) := by decide +kernel
theorem ddA_queue_5 : decode cA_queue 5 = .ok (.invokevirtual 187, 3) := by decide +kernel
theorem ddA_queue_8 : decode cA_queue 8 = .ok (.ifCond .eq 14, 3) := by decide +kernel
theorem ddA_queue_11 : decode cA_queue 11 = .ok (.aload_n 0, 1) := by decide +kernel
theorem ddA_queue_12 : decode cA_queue 12 = .ok (.getfield 28, 3) := by decide +kernel
theorem ddA_queue_15 : decode cA_queue 15 = .ok (.iload_n 2, 1) := by decide +kernel
theorem ddA_queue_16 : decode cA_queue 16 = .ok (.invokevirtual 139, 3) := by decide +kernel
theorem ddA_queue_19 : decode cA_queue 19 = .ok (.ifCond .ne 5, 3) := by decide +kernel
theorem ddA_queue_22 : decode cA_queue 22 = .ok (.iconst (-1), 1) := by decide +kernel
theorem ddA_queue_23 : decode cA_queue 23 = .ok (.ireturn, 1) := by decide +kernel
theorem ddA_queue_24 : decode cA_queue 24 = .ok (.aload_n 0, 1) := by decide +kernel
theorem ddA_queue_25 : decode cA_queue 25 = .ok (.getfield 55, 3) := by decide +kernel
theorem ddA_queue_28 : decode cA_queue 28 = .ok (.getfield 202, 3) := by decide +kernel
theorem ddA_queue_31 : decode cA_queue 31 = .ok (.aload_n 0, 1) := by decide +kernel
theorem ddA_queue_32 : decode cA_queue 32 = .ok (.getfield 55, 3) := by decide +kernel
theorem ddA_queue_35 : decode cA_queue 35 = .ok (.iload_n 1, 1) := by decide +kernel
theorem ddA_queue_36 : decode cA_queue 36 = .ok (.iload_n 2, 1) := by decide +kernel
theorem ddA_queue_37 : decode cA_queue 37 = .ok (.invokevirtual 205, 3) := by decide +kernel
theorem ddA_queue_40 : decode cA_queue 40 = .ok (.iload_n 3, 1) := by decide +kernel
theorem ddA_queue_41 : decode cA_queue 41 = .ok (.invokevirtual 179, 3) := by decide +kernel
theorem ddA_queue_44 : decode cA_queue 44 = .ok (.ireturn, 1) := by decide +kernel
set_option maxHeartbeats 2000000 in
theorem zBA_queue_22 {G : GXM} {X : CxM} (hG : GokM G) (C : CoM G X cA_queue "HomeFreed") (N : mLM X = 4) {d : Nat} (hD : dpM X = d) (hd : 1 ≤ d)  {q : Int32 × Mem} (E : EnM G X (some .int) (some (.int q.1)) q.2 0 0) {M : Mem} (h : BA_queue_22 M = some q) : ZM G X 22 [] [] M 0 0 := by
  unfold BA_queue_22 at h
  refine zz_iconst (v := (-1)) C ddA_queue_22 (by decide) ?_
  obtain rfl := Option.some.inj h
  exact zz_iret C E ddA_queue_23
set_option maxHeartbeats 2000000 in
theorem xA_queue {G : GXM} {l : Launch} (hG : GokM G) (d : Nat) (hd : 1 ≤ d) {v0 : Nat} {v1 : Int32} {v2 : Int32} {v3 : Int32} {M : Mem} {q : Int32 × Mem} (h : fA_queue v0 v1 v2 v3 M = some q) : ExM G l d 0 0 yA_queue cA_queue 4 (some .int) [.ref v0, .int v1, .int v2, .int v3] M (some (.int q.1)) q.2 := by
  refine ex_of hG (by decide +kernel) (Nat.le_of_ble_eq_true rfl) ?_
  intro X hl C E N hD hn
  show ZM G X 0 [(0, .ref v0), (1, .int v1), (2, .int v2), (3, .int v3)] [] M 0 0
  unfold fA_queue at h
  refine zz_aload_n C 0 ddA_queue_0 rfl rfl ?_
  obtain ⟨h1, h⟩ := gdN h
  obtain ⟨h2, h⟩ := gdN h
  refine zz_getr C ddA_queue_1 fl_A_55 rfl h1 (of_decide_eq_true h2) ?_
  refine zz_iload_n C 1 ddA_queue_4 rfl rfl ?_
  obtain ⟨h4, h⟩ := gdN h
  obtain ⟨q3, hq3, h⟩ := bindN h
  refine zz_callV0 (As := [.int v1]) C ddA_queue_5 wd_602 my_H_isThread mv_H_isThread ⟨_, rfl, rfl⟩ (xH_isThread hG (d - 1) (by omega) hq3) (by omega) h4 rfl rfl (Nat.le_of_ble_eq_true rfl) ?_
  refine zz_if_eq (tgt := 22) C ddA_queue_8 rfl (fun hc => ?_) (fun hc => ?_)
  · replace h := iteT h hc
    refine zz_loc (L1 := []) [] rfl ?_
    exact zBA_queue_22 hG C N hD hd E h
  · replace h := iteF h hc
    refine zz_aload_n C 0 ddA_queue_11 rfl rfl ?_
    obtain ⟨h5, h⟩ := gdN h
    obtain ⟨h6, h⟩ := gdN h
    refine zz_getr C ddA_queue_12 fl_A_28 rfl h5 (of_decide_eq_true h6) ?_
    refine zz_iload_n C 2 ddA_queue_15 rfl rfl ?_
    obtain ⟨h8, h⟩ := gdN h
    obtain ⟨q7, hq7, h⟩ := bindN h
    refine zz_callV0 (As := [.int v2]) C ddA_queue_16 wd_574 my_U_isKind mv_U_isKind ⟨_, rfl, rfl⟩ (xU_isKind hG (d - 1) (by omega) hq7) (by omega) h8 rfl rfl (Nat.le_of_ble_eq_true rfl) ?_
    refine zz_if_ne (tgt := 24) C ddA_queue_19 rfl (fun hc => ?_) (fun hc => ?_)
    · replace h := iteF h hc
      refine zz_aload_n C 0 ddA_queue_24 rfl rfl ?_
      obtain ⟨h9, h⟩ := gdN h
      obtain ⟨h10, h⟩ := gdN h
      refine zz_getr C ddA_queue_25 fl_A_55 rfl h9 (of_decide_eq_true h10) ?_
      obtain ⟨h11, h⟩ := gdN h
      obtain ⟨h12, h⟩ := gdN h
      refine zz_getr C ddA_queue_28 fl_A_202 rfl h11 (of_decide_eq_true h12) ?_
      refine zz_aload_n C 0 ddA_queue_31 rfl rfl ?_
      refine zz_getr C ddA_queue_32 fl_A_55 rfl h9 (of_decide_eq_true h10) ?_
      refine zz_iload_n C 1 ddA_queue_35 rfl rfl ?_
      refine zz_iload_n C 2 ddA_queue_36 rfl rfl ?_
      obtain ⟨q13, hq13, h⟩ := bindN h
      refine zz_callV0 (As := [.int v1, .int v2]) C ddA_queue_37 wd_627 my_H_queueOf mv_H_queueOf ⟨_, rfl, rfl⟩ (xH_queueOf hG (d - 1) (by omega) hq13) (by omega) h11 rfl rfl (Nat.le_of_ble_eq_true rfl) ?_
      refine zz_iload_n C 3 ddA_queue_40 rfl rfl ?_
      obtain ⟨h15, h⟩ := gdN h
      obtain ⟨q14, hq14, h⟩ := bindN h
      refine zz_callV0 (As := [.int q13.1, .int v3]) C ddA_queue_41 wd_590 my_C_thingAt mv_C_thingAt ⟨_, rfl, rfl⟩ (xC_thingAt hG (d - 1) (by omega) hq14) (by omega) h15 rfl rfl (Nat.le_of_ble_eq_true rfl) ?_
      obtain rfl := Option.some.inj h
      exact zz_iret C E ddA_queue_44
    · replace h := iteT h hc
      refine zz_loc (L1 := []) [] rfl ?_
      exact zBA_queue_22 hG C N hD hd E h
theorem ddA_outbox_0 : decode cA_outbox 0 = .ok (.aload_n 0, 1) := by decide +kernel
theorem ddA_outbox_1 : decode cA_outbox 1 = .ok (.getfield 55, 3) := by decide +kernel
theorem ddA_outbox_4 : decode cA_outbox 4 = .ok (.iload_n 1, 1) := by decide +kernel
theorem ddA_outbox_5 : decode cA_outbox 5 = .ok (.invokevirtual 187, 3) := by decide +kernel
theorem ddA_outbox_8 : decode cA_outbox 8 = .ok (.ifCond .eq 14, 3) := by decide +kernel
theorem ddA_outbox_11 : decode cA_outbox 11 = .ok (.aload_n 0, 1) := by decide +kernel
theorem ddA_outbox_12 : decode cA_outbox 12 = .ok (.getfield 55, 3) := by decide +kernel
theorem ddA_outbox_15 : decode cA_outbox 15 = .ok (.iload_n 2, 1) := by decide +kernel
theorem ddA_outbox_16 : decode cA_outbox 16 = .ok (.invokevirtual 146, 3) := by decide +kernel
theorem ddA_outbox_19 : decode cA_outbox 19 = .ok (.ifCond .ne 5, 3) := by decide +kernel
theorem ddA_outbox_22 : decode cA_outbox 22 = .ok (.iconst (-1), 1) := by decide +kernel
theorem ddA_outbox_23 : decode cA_outbox 23 = .ok (.ireturn, 1) := by decide +kernel
theorem ddA_outbox_24 : decode cA_outbox 24 = .ok (.aload_n 0, 1) := by decide +kernel
theorem ddA_outbox_25 : decode cA_outbox 25 = .ok (.getfield 55, 3) := by decide +kernel
theorem ddA_outbox_28 : decode cA_outbox 28 = .ok (.aload_n 0, 1) := by decide +kernel
theorem ddA_outbox_29 : decode cA_outbox 29 = .ok (.getfield 55, 3) := by decide +kernel
theorem ddA_outbox_32 : decode cA_outbox 32 = .ok (.getfield 172, 3) := by decide +kernel
theorem ddA_outbox_35 : decode cA_outbox 35 = .ok (.aload_n 0, 1) := by decide +kernel
theorem ddA_outbox_36 : decode cA_outbox 36 = .ok (.getfield 55, 3) := by decide +kernel
theorem ddA_outbox_39 : decode cA_outbox 39 = .ok (.iload_n 1, 1) := by decide +kernel
theorem ddA_outbox_40 : decode cA_outbox 40 = .ok (.iload_n 2, 1) := by decide +kernel
theorem ddA_outbox_41 : decode cA_outbox 41 = .ok (.invokevirtual 208, 3) := by decide +kernel
theorem ddA_outbox_44 : decode cA_outbox 44 = .ok (.iload_n 3, 1) := by decide +kernel
theorem ddA_outbox_45 : decode cA_outbox 45 = .ok (.invokevirtual 179, 3) := by decide +kernel
theorem ddA_outbox_48 : decode cA_outbox 48 = .ok (.invokevirtual 184, 3) := by decide +kernel
theorem ddA_outbox_51 : decode cA_outbox 51 = .ok (.ireturn, 1) := by decide +kernel
set_option maxHeartbeats 2000000 in
theorem zBA_outbox_22 {G : GXM} {X : CxM} (hG : GokM G) (C : CoM G X cA_outbox "HomeFreed") (N : mLM X = 4) {d : Nat} (hD : dpM X = d) (hd : 1 ≤ d)  {q : Int32 × Mem} (E : EnM G X (some .int) (some (.int q.1)) q.2 0 0) {M : Mem} (h : BA_outbox_22 M = some q) : ZM G X 22 [] [] M 0 0 := by
  unfold BA_outbox_22 at h
  refine zz_iconst (v := (-1)) C ddA_outbox_22 (by decide) ?_
  obtain rfl := Option.some.inj h
  exact zz_iret C E ddA_outbox_23
set_option maxHeartbeats 2000000 in
theorem xA_outbox {G : GXM} {l : Launch} (hG : GokM G) (d : Nat) (hd : 1 ≤ d) {v0 : Nat} {v1 : Int32} {v2 : Int32} {v3 : Int32} {M : Mem} {q : Int32 × Mem} (h : fA_outbox v0 v1 v2 v3 M = some q) : ExM G l d 0 0 yA_outbox cA_outbox 4 (some .int) [.ref v0, .int v1, .int v2, .int v3] M (some (.int q.1)) q.2 := by
  refine ex_of hG (by decide +kernel) (Nat.le_of_ble_eq_true rfl) ?_
  intro X hl C E N hD hn
  show ZM G X 0 [(0, .ref v0), (1, .int v1), (2, .int v2), (3, .int v3)] [] M 0 0
  unfold fA_outbox at h
  refine zz_aload_n C 0 ddA_outbox_0 rfl rfl ?_
  obtain ⟨h1, h⟩ := gdN h
  obtain ⟨h2, h⟩ := gdN h
  refine zz_getr C ddA_outbox_1 fl_A_55 rfl h1 (of_decide_eq_true h2) ?_
  refine zz_iload_n C 1 ddA_outbox_4 rfl rfl ?_
  obtain ⟨h4, h⟩ := gdN h
  obtain ⟨q3, hq3, h⟩ := bindN h
  refine zz_callV0 (As := [.int v1]) C ddA_outbox_5 wd_602 my_H_isThread mv_H_isThread ⟨_, rfl, rfl⟩ (xH_isThread hG (d - 1) (by omega) hq3) (by omega) h4 rfl rfl (Nat.le_of_ble_eq_true rfl) ?_
  refine zz_if_eq (tgt := 22) C ddA_outbox_8 rfl (fun hc => ?_) (fun hc => ?_)
  · replace h := iteT h hc
    refine zz_loc (L1 := []) [] rfl ?_
    exact zBA_outbox_22 hG C N hD hd E h
  · replace h := iteF h hc
    refine zz_aload_n C 0 ddA_outbox_11 rfl rfl ?_
    obtain ⟨h5, h⟩ := gdN h
    obtain ⟨h6, h⟩ := gdN h
    refine zz_getr C ddA_outbox_12 fl_A_55 rfl h5 (of_decide_eq_true h6) ?_
    refine zz_iload_n C 2 ddA_outbox_15 rfl rfl ?_
    obtain ⟨h8, h⟩ := gdN h
    obtain ⟨q7, hq7, h⟩ := bindN h
    refine zz_callV0 (As := [.int v2]) C ddA_outbox_16 wd_582 my_H_isPage mv_H_isPage ⟨_, rfl, rfl⟩ (xH_isPage hG (d - 1) (by omega) hq7) (by omega) h8 rfl rfl (Nat.le_of_ble_eq_true rfl) ?_
    refine zz_if_ne (tgt := 24) C ddA_outbox_19 rfl (fun hc => ?_) (fun hc => ?_)
    · replace h := iteF h hc
      refine zz_aload_n C 0 ddA_outbox_24 rfl rfl ?_
      obtain ⟨h9, h⟩ := gdN h
      obtain ⟨h10, h⟩ := gdN h
      refine zz_getr C ddA_outbox_25 fl_A_55 rfl h9 (of_decide_eq_true h10) ?_
      refine zz_aload_n C 0 ddA_outbox_28 rfl rfl ?_
      refine zz_getr C ddA_outbox_29 fl_A_55 rfl h9 (of_decide_eq_true h10) ?_
      obtain ⟨h11, h⟩ := gdN h
      obtain ⟨h12, h⟩ := gdN h
      refine zz_getr C ddA_outbox_32 fl_A_172 rfl h11 (of_decide_eq_true h12) ?_
      refine zz_aload_n C 0 ddA_outbox_35 rfl rfl ?_
      refine zz_getr C ddA_outbox_36 fl_A_55 rfl h9 (of_decide_eq_true h10) ?_
      refine zz_iload_n C 1 ddA_outbox_39 rfl rfl ?_
      refine zz_iload_n C 2 ddA_outbox_40 rfl rfl ?_
      obtain ⟨q13, hq13, h⟩ := bindN h
      refine zz_callV0 (As := [.int v1, .int v2]) C ddA_outbox_41 wd_635 my_H_outboxOf mv_H_outboxOf ⟨_, rfl, rfl⟩ (xH_outboxOf hG (d - 1) (by omega) hq13) (by omega) h11 rfl rfl (Nat.le_of_ble_eq_true rfl) ?_
      refine zz_iload_n C 3 ddA_outbox_44 rfl rfl ?_
      obtain ⟨h15, h⟩ := gdN h
      obtain ⟨q14, hq14, h⟩ := bindN h
      refine zz_callV0 (As := [.int q13.1, .int v3]) C ddA_outbox_45 wd_590 my_C_thingAt mv_C_thingAt ⟨_, rfl, rfl⟩ (xC_thingAt hG (d - 1) (by omega) hq14) (by omega) h15 rfl rfl (Nat.le_of_ble_eq_true rfl) ?_
      obtain ⟨h17, h⟩ := gdN h
      obtain ⟨q16, hq16, h⟩ := bindN h
      refine zz_callV0 (As := [.int q14.1]) C ddA_outbox_48 wd_594 my_H_ownNumber mv_H_ownNumber ⟨_, rfl, rfl⟩ (xH_ownNumber hG (d - 1) (by omega) hq16) (by omega) h17 rfl rfl (Nat.le_of_ble_eq_true rfl) ?_
      obtain rfl := Option.some.inj h
      exact zz_iret C E ddA_outbox_51
    · replace h := iteT h hc
      refine zz_loc (L1 := []) [] rfl ?_
      exact zBA_outbox_22 hG C N hD hd E h
theorem ddH_isBlock_0 : decode cH_isBlock 0 = .ok (.iload_n 1, 1) := by decide +kernel
theorem ddH_isBlock_1 : decode cH_isBlock 1 = .ok (.bipush 100, 2) := by decide +kernel
theorem ddH_isBlock_3 : decode cH_isBlock 3 = .ok (.idiv, 1) := by decide +kernel
theorem ddH_isBlock_4 : decode cH_isBlock 4 = .ok (.istore_n 2, 1) := by decide +kernel
theorem ddH_isBlock_5 : decode cH_isBlock 5 = .ok (.iload_n 1, 1) := by decide +kernel
theorem ddH_isBlock_6 : decode cH_isBlock 6 = .ok (.ifCond .lt 33, 3) := by decide +kernel
theorem ddH_isBlock_9 : decode cH_isBlock 9 = .ok (.iload_n 2, 1) := by decide +kernel
theorem ddH_isBlock_10 : decode cH_isBlock 10 = .ok (.aload_n 0, 1) := by decide +kernel
theorem ddH_isBlock_11 : decode cH_isBlock 11 = .ok (.getfield 46, 3) := by decide +kernel
theorem ddH_isBlock_14 : decode cH_isBlock 14 = .ok (.getfield 76, 3) := by decide +kernel
theorem ddH_isBlock_17 : decode cH_isBlock 17 = .ok (.iconst 1, 1) := by decide +kernel
theorem ddH_isBlock_18 : decode cH_isBlock 18 = .ok (.iaload, 1) := by decide +kernel
theorem ddH_isBlock_19 : decode cH_isBlock 19 = .ok (.if_icmp .ge 20, 3) := by decide +kernel
theorem ddH_isBlock_22 : decode cH_isBlock 22 = .ok (.iload_n 1, 1) := by decide +kernel
theorem ddH_isBlock_23 : decode cH_isBlock 23 = .ok (.bipush 100, 2) := by decide +kernel
theorem ddH_isBlock_25 : decode cH_isBlock 25 = .ok (.irem, 1) := by decide +kernel
theorem ddH_isBlock_26 : decode cH_isBlock 26 = .ok (.aload_n 0, 1) := by decide +kernel
theorem ddH_isBlock_27 : decode cH_isBlock 27 = .ok (.getfield 18, 3) := by decide +kernel
theorem ddH_isBlock_30 : decode cH_isBlock 30 = .ok (.iload_n 2, 1) := by decide +kernel
theorem ddH_isBlock_31 : decode cH_isBlock 31 = .ok (.iaload, 1) := by decide +kernel
theorem ddH_isBlock_32 : decode cH_isBlock 32 = .ok (.if_icmp .ge 7, 3) := by decide +kernel
theorem ddH_isBlock_35 : decode cH_isBlock 35 = .ok (.iconst 1, 1) := by decide +kernel
theorem ddH_isBlock_36 : decode cH_isBlock 36 = .ok (.goto 4, 3) := by decide +kernel
theorem ddH_isBlock_39 : decode cH_isBlock 39 = .ok (.iconst 0, 1) := by decide +kernel
theorem ddH_isBlock_40 : decode cH_isBlock 40 = .ok (.ireturn, 1) := by decide +kernel
set_option maxHeartbeats 2000000 in
theorem zBH_isBlock_40 {G : GXM} {X : CxM} (hG : GokM G) (C : CoM G X cH_isBlock "HomeFreed$Heap") (N : mLM X = 3) {d : Nat} (hD : dpM X = d) (hd : 0 ≤ d)  {q : Int32 × Mem} (E : EnM G X (some .boolean) (some (.int q.1)) q.2 0 0) {w0 : Int32} {M : Mem} (h : BH_isBlock_40 w0 M = some q) : ZM G X 40 [] [.int w0] M 0 0 := by
  unfold BH_isBlock_40 at h
  obtain ⟨h1, h⟩ := gdN h
  obtain rfl := Option.some.inj h
  exact zz_zret C (of_decide_eq_true h1) E ddH_isBlock_40
set_option maxHeartbeats 2000000 in
theorem zBH_isBlock_39 {G : GXM} {X : CxM} (hG : GokM G) (C : CoM G X cH_isBlock "HomeFreed$Heap") (N : mLM X = 3) {d : Nat} (hD : dpM X = d) (hd : 0 ≤ d)  {q : Int32 × Mem} (E : EnM G X (some .boolean) (some (.int q.1)) q.2 0 0) {M : Mem} (h : BH_isBlock_39 M = some q) : ZM G X 39 [] [] M 0 0 := by
  unfold BH_isBlock_39 at h
  refine zz_iconst (v := 0) C ddH_isBlock_39 (by decide) ?_
  exact zBH_isBlock_40 hG C N hD hd E h
set_option maxHeartbeats 2000000 in
theorem xH_isBlock {G : GXM} {l : Launch} (hG : GokM G) (d : Nat) (hd : 0 ≤ d) {v0 : Nat} {v1 : Int32} {M : Mem} {q : Int32 × Mem} (h : fH_isBlock v0 v1 M = some q) : ExM G l d 0 0 yH_isBlock cH_isBlock 3 (some .boolean) [.ref v0, .int v1] M (some (.int q.1)) q.2 := by
  refine ex_of hG (by decide +kernel) (Nat.le_of_ble_eq_true rfl) ?_
  intro X hl C E N hD hn
  show ZM G X 0 [(0, .ref v0), (1, .int v1)] [] M 0 0
  unfold fH_isBlock at h
  refine zz_iload_n C 1 ddH_isBlock_0 rfl rfl ?_
  refine zz_bipush (v := 100) C ddH_isBlock_1 (by decide) ?_
  refine zz_idiv C ddH_isBlock_3 (by decide) ?_
  refine zz_istore_n (L1 := [(2, .int (v1 / 100)), (0, .ref v0), (1, .int v1)]) C ddH_isBlock_4 rfl N (by decide) rfl ?_
  refine zz_iload_n C 2 ddH_isBlock_5 rfl rfl ?_
  refine zz_if_lt (tgt := 39) C ddH_isBlock_6 rfl (fun hc => ?_) (fun hc => ?_)
  · replace h := iteT h hc
    refine zz_loc (L1 := []) [] rfl ?_
    exact zBH_isBlock_39 hG C N hD hd E h
  · replace h := iteF h hc
    refine zz_iload_n C 0 ddH_isBlock_9 rfl rfl ?_
    refine zz_aload_n C 1 ddH_isBlock_10 rfl rfl ?_
    obtain ⟨h1, h⟩ := gdN h
    obtain ⟨h2, h⟩ := gdN h
    refine zz_getr C ddH_isBlock_11 fl_H_46 rfl h1 (of_decide_eq_true h2) ?_
    obtain ⟨h3, h⟩ := gdN h
    obtain ⟨h4, h⟩ := gdN h
    refine zz_getr C ddH_isBlock_14 fl_H_76 rfl h3 (of_decide_eq_true h4) ?_
    refine zz_iconst (v := 1) C ddH_isBlock_17 (by decide) ?_
    obtain ⟨h5, h⟩ := gdN h
    refine zz_iaload C ddH_isBlock_18 h5 ?_
    refine zz_icmp_ge (tgt := 39) C ddH_isBlock_19 rfl (fun hc => ?_) (fun hc => ?_)
    · replace h := iteT h hc
      refine zz_loc (L1 := []) [] rfl ?_
      exact zBH_isBlock_39 hG C N hD hd E h
    · replace h := iteF h hc
      refine zz_iload_n C 2 ddH_isBlock_22 rfl rfl ?_
      refine zz_bipush (v := 100) C ddH_isBlock_23 (by decide) ?_
      refine zz_irem C ddH_isBlock_25 (by decide) ?_
      refine zz_aload_n C 1 ddH_isBlock_26 rfl rfl ?_
      obtain ⟨h6, h⟩ := gdN h
      refine zz_getr C ddH_isBlock_27 fl_H_18 rfl h1 (of_decide_eq_true h6) ?_
      refine zz_iload_n C 0 ddH_isBlock_30 rfl rfl ?_
      obtain ⟨h7, h⟩ := gdN h
      refine zz_iaload C ddH_isBlock_31 h7 ?_
      refine zz_icmp_ge (tgt := 39) C ddH_isBlock_32 rfl (fun hc => ?_) (fun hc => ?_)
      · replace h := iteT h hc
        refine zz_loc (L1 := []) [] rfl ?_
        exact zBH_isBlock_39 hG C N hD hd E h
      · replace h := iteF h hc
        refine zz_iconst (v := 1) C ddH_isBlock_35 (by decide) ?_
        refine zz_goto (tgt := 40) C ddH_isBlock_36 rfl ?_
        refine zz_loc (L1 := []) [] rfl ?_
        exact zBH_isBlock_40 hG C N hD hd E h
theorem ddH_thingOf_0 : decode cH_thingOf 0 = .ok (.iload_n 1, 1) := by decide +kernel
theorem ddH_thingOf_1 : decode cH_thingOf 1 = .ok (.bipush 100, 2) := by decide +kernel
theorem ddH_thingOf_3 : decode cH_thingOf 3 = .ok (.idiv, 1) := by decide +kernel
theorem ddH_thingOf_4 : decode cH_thingOf 4 = .ok (.bipush 40, 2) := by decide +kernel
theorem ddH_thingOf_6 : decode cH_thingOf 6 = .ok (.imul, 1) := by decide +kernel
theorem ddH_thingOf_7 : decode cH_thingOf 7 = .ok (.iload_n 1, 1) := by decide +kernel
theorem ddH_thingOf_8 : decode cH_thingOf 8 = .ok (.bipush 100, 2) := by decide +kernel
theorem ddH_thingOf_10 : decode cH_thingOf 10 = .ok (.irem, 1) := by decide +kernel
theorem ddH_thingOf_11 : decode cH_thingOf 11 = .ok (.iadd, 1) := by decide +kernel
theorem ddH_thingOf_12 : decode cH_thingOf 12 = .ok (.ireturn, 1) := by decide +kernel
set_option maxHeartbeats 2000000 in
theorem xH_thingOf {G : GXM} {l : Launch} (hG : GokM G) (d : Nat) (hd : 0 ≤ d) {v0 : Nat} {v1 : Int32} {M : Mem} {q : Int32 × Mem} (h : fH_thingOf v0 v1 M = some q) : ExM G l d 0 0 yH_thingOf cH_thingOf 2 (some .int) [.ref v0, .int v1] M (some (.int q.1)) q.2 := by
  refine ex_of hG (by decide +kernel) (Nat.le_of_ble_eq_true rfl) ?_
  intro X hl C E N hD hn
  show ZM G X 0 [(0, .ref v0), (1, .int v1)] [] M 0 0
  unfold fH_thingOf at h
  refine zz_iload_n C 1 ddH_thingOf_0 rfl rfl ?_
  refine zz_bipush (v := 100) C ddH_thingOf_1 (by decide) ?_
  refine zz_idiv C ddH_thingOf_3 (by decide) ?_
  refine zz_bipush (v := 40) C ddH_thingOf_4 (by decide) ?_
  refine zz_imul C ddH_thingOf_6 ?_
  refine zz_iload_n C 1 ddH_thingOf_7 rfl rfl ?_
  refine zz_bipush (v := 100) C ddH_thingOf_8 (by decide) ?_
  refine zz_irem C ddH_thingOf_10 (by decide) ?_
  refine zz_iadd C ddH_thingOf_11 ?_
  obtain rfl := Option.some.inj h
  exact zz_iret C E ddH_thingOf_12
theorem ddH_isHeld_0 : decode cH_isHeld 0 = .ok (.aload_n 0, 1) := by decide +kernel
theorem ddH_isHeld_1 : decode cH_isHeld 1 = .ok (.iload_n 1, 1) := by decide +kernel
theorem ddH_isHeld_2 : decode cH_isHeld 2 = .ok (.invokevirtual 85, 3) := by decide +kernel
theorem ddH_isHeld_5 : decode cH_isHeld 5 = .ok (.ifCond .eq 24, 3) := by decide +kernel
theorem ddH_isHeld_8 : decode cH_isHeld 8 = .ok (.aload_n 0, 1) := by decide +kernel
theorem ddH_isHeld_9 : decode cH_isHeld 9 = .ok (.getfield 30, 3) := by decide +kernel
theorem ddH_isHeld_12 : decode cH_isHeld 12 = .ok (.getfield 88, 3) := by decide +kernel
theorem ddH_isHeld_15 : decode cH_isHeld 15 = .ok (.aload_n 0, 1) := by decide +kernel
theorem ddH_isHeld_16 : decode cH_isHeld 16 = .ok (.iload_n 1, 1) := by decide +kernel
theorem ddH_isHeld_17 : decode cH_isHeld 17 = .ok (.invokevirtual 91, 3) := by decide +kernel
theorem ddH_isHeld_20 : decode cH_isHeld 20 = .ok (.iaload, 1) := by decide +kernel
theorem ddH_isHeld_21 : decode cH_isHeld 21 = .ok (.iconst (-1), 1) := by decide +kernel
theorem ddH_isHeld_22 : decode cH_isHeld 22 = .ok (.if_icmp .ne 7, 3) := by decide +kernel
theorem ddH_isHeld_25 : decode cH_isHeld 25 = .ok (.iconst 1, 1) := by decide +kernel
theorem ddH_isHeld_26 : decode cH_isHeld 26 = .ok (.goto 4, 3) := by decide +kernel
theorem ddH_isHeld_29 : decode cH_isHeld 29 = .ok (.iconst 0, 1) := by decide +kernel
theorem ddH_isHeld_30 : decode cH_isHeld 30 = .ok (.ireturn, 1) := by decide +kernel
set_option maxHeartbeats 2000000 in
theorem zBH_isHeld_30 {G : GXM} {X : CxM} (hG : GokM G) (C : CoM G X cH_isHeld "HomeFreed$Heap") (N : mLM X = 2) {d : Nat} (hD : dpM X = d) (hd : 1 ≤ d)  {q : Int32 × Mem} (E : EnM G X (some .boolean) (some (.int q.1)) q.2 0 0) {w0 : Int32} {M : Mem} (h : BH_isHeld_30 w0 M = some q) : ZM G X 30 [] [.int w0] M 0 0 := by
  unfold BH_isHeld_30 at h
  obtain ⟨h1, h⟩ := gdN h
  obtain rfl := Option.some.inj h
  exact zz_zret C (of_decide_eq_true h1) E ddH_isHeld_30
set_option maxHeartbeats 2000000 in
theorem zBH_isHeld_29 {G : GXM} {X : CxM} (hG : GokM G) (C : CoM G X cH_isHeld "HomeFreed$Heap") (N : mLM X = 2) {d : Nat} (hD : dpM X = d) (hd : 1 ≤ d)  {q : Int32 × Mem} (E : EnM G X (some .boolean) (some (.int q.1)) q.2 0 0) {M : Mem} (h : BH_isHeld_29 M = some q) : ZM G X 29 [] [] M 0 0 := by
  unfold BH_isHeld_29 at h
  refine zz_iconst (v := 0) C ddH_isHeld_29 (by decide) ?_
  exact zBH_isHeld_30 hG C N hD hd E h
set_option maxHeartbeats 2000000 in
theorem xH_isHeld {G : GXM} {l : Launch} (hG : GokM G) (d : Nat) (hd : 1 ≤ d) {v0 : Nat} {v1 : Int32} {M : Mem} {q : Int32 × Mem} (h : fH_isHeld v0 v1 M = some q) : ExM G l d 0 0 yH_isHeld cH_isHeld 2 (some .boolean) [.ref v0, .int v1] M (some (.int q.1)) q.2 := by
  refine ex_of hG (by decide +kernel) (Nat.le_of_ble_eq_true rfl) ?_
  intro X hl C E N hD hn
  show ZM G X 0 [(0, .ref v0), (1, .int v1)] [] M 0 0
  unfold fH_isHeld at h
  refine zz_aload_n C 0 ddH_isHeld_0 rfl rfl ?_
  refine zz_iload_n C 1 ddH_isHeld_1 rfl rfl ?_
  obtain ⟨h2, h⟩ := gdN h
  obtain ⟨q1, hq1, h⟩ := bindN h
  refine zz_callV0 (As := [.int v1]) C ddH_isHeld_2 wd_648 my_H_isBlock mv_H_isBlock ⟨_, rfl, rfl⟩ (xH_isBlock hG (d - 1) (by omega) hq1) (by omega) h2 rfl rfl (Nat.le_of_ble_eq_true rfl) ?_
  refine zz_if_eq (tgt := 29) C ddH_isHeld_5 rfl (fun hc => ?_) (fun hc => ?_)
  · replace h := iteT h hc
    refine zz_loc (L1 := []) [] rfl ?_
    exact zBH_isHeld_29 hG C N hD hd E h
  · replace h := iteF h hc
    refine zz_aload_n C 0 ddH_isHeld_8 rfl rfl ?_
    obtain ⟨h3, h⟩ := gdN h
    obtain ⟨h4, h⟩ := gdN h
    refine zz_getr C ddH_isHeld_9 fl_H_30 rfl h3 (of_decide_eq_true h4) ?_
    obtain ⟨h5, h⟩ := gdN h
    obtain ⟨h6, h⟩ := gdN h
    refine zz_getr C ddH_isHeld_12 fl_H_88 rfl h5 (of_decide_eq_true h6) ?_
    refine zz_aload_n C 0 ddH_isHeld_15 rfl rfl ?_
    refine zz_iload_n C 1 ddH_isHeld_16 rfl rfl ?_
    obtain ⟨q7, hq7, h⟩ := bindN h
    refine zz_callV0 (As := [.int v1]) C ddH_isHeld_17 wd_649 my_H_thingOf mv_H_thingOf ⟨_, rfl, rfl⟩ (xH_thingOf hG (d - 1) (by omega) hq7) (by omega) h3 rfl rfl (Nat.le_of_ble_eq_true rfl) ?_
    obtain ⟨h8, h⟩ := gdN h
    refine zz_iaload C ddH_isHeld_20 h8 ?_
    refine zz_iconst (v := (-1)) C ddH_isHeld_21 (by decide) ?_
    refine zz_icmp_ne (tgt := 29) C ddH_isHeld_22 rfl (fun hc => ?_) (fun hc => ?_)
    · replace h := iteF h hc
      refine zz_loc (L1 := []) [] rfl ?_
      exact zBH_isHeld_29 hG C N hD hd E h
    · replace h := iteT h hc
      refine zz_iconst (v := 1) C ddH_isHeld_25 (by decide) ?_
      refine zz_goto (tgt := 30) C ddH_isHeld_26 rfl ?_
      refine zz_loc (L1 := []) [] rfl ?_
      exact zBH_isHeld_30 hG C N hD hd E h
theorem ddA_held_0 : decode cA_held 0 = .ok (.aload_n 0, 1) := by decide +kernel
theorem ddA_held_1 : decode cA_held 1 = .ok (.getfield 55, 3) := by decide +kernel
theorem ddA_held_4 : decode cA_held 4 = .ok (.iload_n 1, 1) := by decide +kernel
theorem ddA_held_5 : decode cA_held 5 = .ok (.invokevirtual 211, 3) := by decide +kernel
theorem ddA_held_8 : decode cA_held 8 = .ok (.ifCond .ne 5, 3) := by decide +kernel
theorem ddA_held_11 : decode cA_held 11 = .ok (.iconst (-1), 1) := by decide +kernel
theorem ddA_held_12 : decode cA_held 12 = .ok (.ireturn, 1) := by decide +kernel
theorem ddA_held_13 : decode cA_held 13 = .ok (.aload_n 0, 1) := by decide +kernel
theorem ddA_held_14 : decode cA_held 14 = .ok (.getfield 55, 3) := by decide +kernel
theorem ddA_held_17 : decode cA_held 17 = .ok (.iload_n 1, 1) := by decide +kernel
theorem ddA_held_18 : decode cA_held 18 = .ok (.invokevirtual 214, 3) := by decide +kernel
theorem ddA_held_21 : decode cA_held 21 = .ok (.ifCond .eq 7, 3) := by decide +kernel
theorem ddA_held_24 : decode cA_held 24 = .ok (.iconst 1, 1) := by decide +kernel
theorem ddA_held_25 : decode cA_held 25 = .ok (.goto 4, 3) := by decide +kernel
theorem ddA_held_28 : decode cA_held 28 = .ok (.iconst 0, 1) := by decide +kernel
theorem ddA_held_29 : decode cA_held 29 = .ok (.ireturn, 1) := by decide +kernel
set_option maxHeartbeats 2000000 in
theorem zBA_held_29 {G : GXM} {X : CxM} (hG : GokM G) (C : CoM G X cA_held "HomeFreed") (N : mLM X = 2) {d : Nat} (hD : dpM X = d) (hd : 2 ≤ d)  {q : Int32 × Mem} (E : EnM G X (some .int) (some (.int q.1)) q.2 0 0) {w0 : Int32} {M : Mem} (h : BA_held_29 w0 M = some q) : ZM G X 29 [] [.int w0] M 0 0 := by
  unfold BA_held_29 at h
  obtain rfl := Option.some.inj h
  exact zz_iret C E ddA_held_29
set_option maxHeartbeats 2000000 in
theorem xA_held {G : GXM} {l : Launch} (hG : GokM G) (d : Nat) (hd : 2 ≤ d) {v0 : Nat} {v1 : Int32} {M : Mem} {q : Int32 × Mem} (h : fA_held v0 v1 M = some q) : ExM G l d 0 0 yA_held cA_held 2 (some .int) [.ref v0, .int v1] M (some (.int q.1)) q.2 := by
  refine ex_of hG (by decide +kernel) (Nat.le_of_ble_eq_true rfl) ?_
  intro X hl C E N hD hn
  show ZM G X 0 [(0, .ref v0), (1, .int v1)] [] M 0 0
  unfold fA_held at h
  refine zz_aload_n C 0 ddA_held_0 rfl rfl ?_
  obtain ⟨h1, h⟩ := gdN h
  obtain ⟨h2, h⟩ := gdN h
  refine zz_getr C ddA_held_1 fl_A_55 rfl h1 (of_decide_eq_true h2) ?_
  refine zz_iload_n C 1 ddA_held_4 rfl rfl ?_
  obtain ⟨h4, h⟩ := gdN h
  obtain ⟨q3, hq3, h⟩ := bindN h
  refine zz_callV0 (As := [.int v1]) C ddA_held_5 wd_640 my_H_isBlock mv_H_isBlock ⟨_, rfl, rfl⟩ (xH_isBlock hG (d - 1) (by omega) hq3) (by omega) h4 rfl rfl (Nat.le_of_ble_eq_true rfl) ?_
  refine zz_if_ne (tgt := 13) C ddA_held_8 rfl (fun hc => ?_) (fun hc => ?_)
  · replace h := iteF h hc
    refine zz_aload_n C 0 ddA_held_13 rfl rfl ?_
    obtain ⟨h5, h⟩ := gdN h
    obtain ⟨h6, h⟩ := gdN h
    refine zz_getr C ddA_held_14 fl_A_55 rfl h5 (of_decide_eq_true h6) ?_
    refine zz_iload_n C 1 ddA_held_17 rfl rfl ?_
    obtain ⟨h8, h⟩ := gdN h
    obtain ⟨q7, hq7, h⟩ := bindN h
    refine zz_callV0 (As := [.int v1]) C ddA_held_18 wd_644 my_H_isHeld mv_H_isHeld ⟨_, rfl, rfl⟩ (xH_isHeld hG (d - 1) (by omega) hq7) (by omega) h8 rfl rfl (Nat.le_of_ble_eq_true rfl) ?_
    refine zz_if_eq (tgt := 28) C ddA_held_21 rfl (fun hc => ?_) (fun hc => ?_)
    · replace h := iteT h hc
      refine zz_iconst (v := 0) C ddA_held_28 (by decide) ?_
      refine zz_loc (L1 := []) [] rfl ?_
      exact zBA_held_29 hG C N hD hd E h
    · replace h := iteF h hc
      refine zz_iconst (v := 1) C ddA_held_24 (by decide) ?_
      refine zz_goto (tgt := 29) C ddA_held_25 rfl ?_
      refine zz_loc (L1 := []) [] rfl ?_
      exact zBA_held_29 hG C N hD hd E h
  · replace h := iteT h hc
    refine zz_iconst (v := (-1)) C ddA_held_11 (by decide) ?_
    obtain rfl := Option.some.inj h
    exact zz_iret C E ddA_held_12
theorem ddA_refuse_0 : decode cA_refuse 0 = .ok (.iload_n 1, 1) := by decide +kernel
theorem ddA_refuse_1 : decode cA_refuse 1 = .ok (.ifCond .lt 22, 3) := by decide +kernel
theorem ddA_refuse_4 : decode cA_refuse 4 = .ok (.iload_n 1, 1) := by decide +kernel
theorem ddA_refuse_5 : decode cA_refuse 5 = .ok (.aload_n 0, 1) := by decide +kernel
theorem ddA_refuse_6 : decode cA_refuse 6 = .ok (.getfield 73, 3) := by decide +kernel
theorem ddA_refuse_9 : decode cA_refuse 9 = .ok (.arraylength, 1) := by decide +kernel
theorem ddA_refuse_10 : decode cA_refuse 10 = .ok (.if_icmp .ge 13, 3) := by decide +kernel
theorem ddA_refuse_13 : decode cA_refuse 13 = .ok (.aload_n 0, 1) := by decide +kernel
theorem ddA_refuse_14 : decode cA_refuse 14 = .ok (.getfield 73, 3) := by decide +kernel
theorem ddA_refuse_17 : decode cA_refuse 17 = .ok (.iload_n 1, 1) := by decide +kernel
theorem ddA_refuse_18 : decode cA_refuse 18 = .ok (.dup2, 1) := by decide +kernel
theorem ddA_refuse_19 : decode cA_refuse 19 = .ok (.iaload, 1) := by decide +kernel
theorem ddA_refuse_20 : decode cA_refuse 20 = .ok (.iconst 1, 1) := by decide +kernel
theorem ddA_refuse_21 : decode cA_refuse 21 = .ok (.iadd, 1) := by decide +kernel
theorem ddA_refuse_22 : decode cA_refuse 22 = .ok (.iastore, 1) := by decide +kernel
theorem ddA_refuse_23 : decode cA_refuse 23 = .ok (.iconst (-1), 1) := by decide +kernel
theorem ddA_refuse_24 : decode cA_refuse 24 = .ok (.ireturn, 1) := by decide +kernel
set_option maxHeartbeats 2000000 in
theorem zBA_refuse_23 {G : GXM} {X : CxM} (hG : GokM G) (C : CoM G X cA_refuse "HomeFreed") (N : mLM X = 2) {d : Nat} (hD : dpM X = d) (hd : 0 ≤ d)  {q : Int32 × Mem} (E : EnM G X (some .int) (some (.int q.1)) q.2 0 0) {M : Mem} (h : BA_refuse_23 M = some q) : ZM G X 23 [] [] M 0 0 := by
  unfold BA_refuse_23 at h
  refine zz_iconst (v := (-1)) C ddA_refuse_23 (by decide) ?_
  obtain rfl := Option.some.inj h
  exact zz_iret C E ddA_refuse_24
set_option maxHeartbeats 2000000 in
theorem xA_refuse {G : GXM} {l : Launch} (hG : GokM G) (d : Nat) (hd : 0 ≤ d) {v0 : Nat} {v1 : Int32} {M : Mem} {q : Int32 × Mem} (h : fA_refuse v0 v1 M = some q) : ExM G l d 0 0 yA_refuse cA_refuse 2 (some .int) [.ref v0, .int v1] M (some (.int q.1)) q.2 := by
  refine ex_of hG (by decide +kernel) (Nat.le_of_ble_eq_true rfl) ?_
  intro X hl C E N hD hn
  show ZM G X 0 [(0, .ref v0), (1, .int v1)] [] M 0 0
  unfold fA_refuse at h
  refine zz_iload_n C 1 ddA_refuse_0 rfl rfl ?_
  refine zz_if_lt (tgt := 23) C ddA_refuse_1 rfl (fun hc => ?_) (fun hc => ?_)
  · replace h := iteT h hc
    refine zz_loc (L1 := []) [] rfl ?_
    exact zBA_refuse_23 hG C N hD hd E h
  · replace h := iteF h hc
    refine zz_iload_n C 1 ddA_refuse_4 rfl rfl ?_
    refine zz_aload_n C 0 ddA_refuse_5 rfl rfl ?_
    obtain ⟨h1, h⟩ := gdN h
    obtain ⟨h2, h⟩ := gdN h
    refine zz_getr C ddA_refuse_6 fl_A_73 rfl h1 (of_decide_eq_true h2) ?_
    obtain ⟨h3, h⟩ := gdN h
    refine zz_alenI C ddA_refuse_9 h3 ?_
    refine zz_icmp_ge (tgt := 23) C ddA_refuse_10 rfl (fun hc => ?_) (fun hc => ?_)
    · replace h := iteT h hc
      refine zz_loc (L1 := []) [] rfl ?_
      exact zBA_refuse_23 hG C N hD hd E h
    · replace h := iteF h hc
      refine zz_aload_n C 0 ddA_refuse_13 rfl rfl ?_
      refine zz_getr C ddA_refuse_14 fl_A_73 rfl h1 (of_decide_eq_true h2) ?_
      refine zz_iload_n C 1 ddA_refuse_17 rfl rfl ?_
      refine zz_dup2 C ddA_refuse_18 rfl rfl ?_
      obtain ⟨h4, h⟩ := gdN h
      refine zz_iaload C ddA_refuse_19 h4 ?_
      refine zz_iconst (v := 1) C ddA_refuse_20 (by decide) ?_
      refine zz_iadd C ddA_refuse_21 ?_
      obtain ⟨h5, h⟩ := gdN h
      refine zz_iastore C ddA_refuse_22 h5 ?_
      refine zz_loc (L1 := []) [] rfl ?_
      exact zBA_refuse_23 hG C N hD hd E h
theorem ddU_kindFor_0 : decode cU_kindFor 0 = .ok (.iconst 0, 1) := by decide +kernel
theorem ddU_kindFor_1 : decode cU_kindFor 1 = .ok (.istore_n 2, 1) := by decide +kernel
theorem ddU_kindFor_2 : decode cU_kindFor 2 = .ok (.iload_n 2, 1) := by decide +kernel
theorem ddU_kindFor_3 : decode cU_kindFor 3 = .ok (.aload_n 0, 1) := by decide +kernel
theorem ddU_kindFor_4 : decode cU_kindFor 4 = .ok (.getfield 18, 3) := by decide +kernel
theorem ddU_kindFor_7 : decode cU_kindFor 7 = .ok (.if_icmp .ge 26, 3) := by decide +kernel
theorem ddU_kindFor_10 : decode cU_kindFor 10 = .ok (.iload_n 1, 1) := by decide +kernel
theorem ddU_kindFor_11 : decode cU_kindFor 11 = .ok (.iconst 1, 1) := by decide +kernel
theorem ddU_kindFor_12 : decode cU_kindFor 12 = .ok (.if_icmp .lt 21, 3) := by decide +kernel
theorem ddU_kindFor_15 : decode cU_kindFor 15 = .ok (.aload_n 0, 1) := by decide +kernel
theorem ddU_kindFor_16 : decode cU_kindFor 16 = .ok (.getfield 15, 3) := by decide +kernel
theorem ddU_kindFor_19 : decode cU_kindFor 19 = .ok (.iload_n 2, 1) := by decide +kernel
theorem ddU_kindFor_20 : decode cU_kindFor 20 = .ok (.iaload, 1) := by decide +kernel
theorem ddU_kindFor_21 : decode cU_kindFor 21 = .ok (.iload_n 1, 1) := by decide +kernel
theorem ddU_kindFor_22 : decode cU_kindFor 22 = .ok (.if_icmp .lt 5, 3) := by decide +kernel
theorem ddU_kindFor_25 : decode cU_kindFor 25 = .ok (.iload_n 2, 1) := by decide +kernel
theorem ddU_kindFor_26 : decode cU_kindFor 26 = .ok (.ireturn, 1) := by decide +kernel
theorem ddU_kindFor_27 : decode cU_kindFor 27 = .ok (.iinc 2 1, 3) := by decide +kernel
theorem ddU_kindFor_30 : decode cU_kindFor 30 = .ok (.goto (-28), 3) := by decide +kernel
theorem ddU_kindFor_33 : decode cU_kindFor 33 = .ok (.iconst (-1), 1) := by decide +kernel
theorem ddU_kindFor_34 : decode cU_kindFor 34 = .ok (.ireturn, 1) := by decide +kernel
set_option maxHeartbeats 2000000 in
theorem zBU_kindFor_33 {G : GXM} {X : CxM} (hG : GokM G) (C : CoM G X cU_kindFor "HomeFreed$Rules") (N : mLM X = 3) {d : Nat} (hD : dpM X = d) (hd : 0 ≤ d)  {q : Int32 × Mem} (E : EnM G X (some .int) (some (.int q.1)) q.2 0 0) {M : Mem} (h : BU_kindFor_33 M = some q) : ZM G X 33 [] [] M 0 0 := by
  unfold BU_kindFor_33 at h
  refine zz_iconst (v := (-1)) C ddU_kindFor_33 (by decide) ?_
  obtain rfl := Option.some.inj h
  exact zz_iret C E ddU_kindFor_34
set_option maxHeartbeats 2000000 in
theorem zBU_kindFor_2 {G : GXM} {X : CxM} (hG : GokM G) (C : CoM G X cU_kindFor "HomeFreed$Rules") (N : mLM X = 3) {d : Nat} (hD : dpM X = d) (hd : 0 ≤ d) {v0 : Nat} {v1 : Int32} {K : Nat → Int32 → Int32 → Mem → Option ((Int32 × Mem) ⊕ (Mem))} {q : (Int32 × Mem) ⊕ (Mem)} (hK : ∀ (v2 : Int32) (M : Mem), K v0 v1 v2 M = some q → ZM G X 2 [(0, .ref v0), (1, .int v1), (2, .int v2)] [] M 0 0) (hr : ∀ r : Int32 × Mem, q = .inl r → EnM G X (some .int) (some (.int r.1)) r.2 0 0) (hx0 : ∀ y : Mem, q = (.inr y) → ZM G X 33 [] [] y 0 0) {v2 : Int32} {M : Mem} (h : BU_kindFor_2 K v0 v1 v2 M = some q) : ZM G X 2 [(0, .ref v0), (1, .int v1), (2, .int v2)] [] M 0 0 := by
  unfold BU_kindFor_2 at h
  refine zz_iload_n C 2 ddU_kindFor_2 rfl rfl ?_
  refine zz_aload_n C 0 ddU_kindFor_3 rfl rfl ?_
  obtain ⟨h1, h⟩ := gdN h
  refine zz_geti C ddU_kindFor_4 fl_U_18 rfl h1 ?_
  refine zz_icmp_ge (tgt := 33) C ddU_kindFor_7 rfl (fun hc => ?_) (fun hc => ?_)
  · replace h := iteT h hc
    refine zz_loc (L1 := []) [] rfl ?_
    exact hx0 _ (Option.some.inj h).symm
  · replace h := iteF h hc
    refine zz_iload_n C 1 ddU_kindFor_10 rfl rfl ?_
    refine zz_iconst (v := 1) C ddU_kindFor_11 (by decide) ?_
    refine zz_icmp_lt (tgt := 33) C ddU_kindFor_12 rfl (fun hc => ?_) (fun hc => ?_)
    · replace h := iteT h hc
      refine zz_loc (L1 := []) [] rfl ?_
      exact hx0 _ (Option.some.inj h).symm
    · replace h := iteF h hc
      refine zz_aload_n C 0 ddU_kindFor_15 rfl rfl ?_
      obtain ⟨h2, h⟩ := gdN h
      refine zz_getr C ddU_kindFor_16 fl_U_15 rfl h1 (of_decide_eq_true h2) ?_
      refine zz_iload_n C 2 ddU_kindFor_19 rfl rfl ?_
      obtain ⟨h3, h⟩ := gdN h
      refine zz_iaload C ddU_kindFor_20 h3 ?_
      refine zz_iload_n C 1 ddU_kindFor_21 rfl rfl ?_
      refine zz_icmp_lt (tgt := 27) C ddU_kindFor_22 rfl (fun hc => ?_) (fun hc => ?_)
      · replace h := iteT h hc
        refine zz_iinc (v := v2 + 1) (L1 := [(2, .int (v2 + 1)), (0, .ref v0), (1, .int v1)]) C 2 ddU_kindFor_27 rfl rfl N (by decide) rfl ?_
        refine zz_goto (tgt := 2) C ddU_kindFor_30 rfl ?_
        refine zz_loc (L1 := [(0, .ref v0), (1, .int v1), (2, .int (v2 + 1))]) [1, 2, 0] rfl ?_
        exact hK _ _ h
      · replace h := iteF h hc
        refine zz_iload_n C 2 ddU_kindFor_25 rfl rfl ?_
        exact zz_iret C (hr _ (Option.some.inj h).symm) ddU_kindFor_26
set_option maxHeartbeats 2000000 in
theorem zLU_kindFor_2 {G : GXM} {X : CxM} (hG : GokM G) (C : CoM G X cU_kindFor "HomeFreed$Rules") (N : mLM X = 3) {d : Nat} (hD : dpM X = d) (hd : 0 ≤ d) {v0 : Nat} {v1 : Int32} {q : (Int32 × Mem) ⊕ (Mem)} : ∀ (f : Nat) (v2 : Int32) (M : Mem), LU_kindFor_2 f v0 v1 v2 M = some q → (hr : ∀ r : Int32 × Mem, q = .inl r → EnM G X (some .int) (some (.int r.1)) r.2 0 0) → (hx0 : ∀ y : Mem, q = (.inr y) → ZM G X 33 [] [] y 0 0) → ZM G X 2 [(0, .ref v0), (1, .int v1), (2, .int v2)] [] M 0 0 := by
  intro f
  induction f with
  | zero => intro v2 M h; cases h
  | succ f ih =>
    intro v2 M h hr hx0
    exact zBU_kindFor_2 hG C N hD hd (K := LU_kindFor_2 f) (q := q) (fun v2 M h => ih v2 M h hr hx0) hr hx0 h
set_option maxHeartbeats 2000000 in
theorem xU_kindFor {G : GXM} {l : Launch} (hG : GokM G) (d : Nat) (hd : 0 ≤ d) {v0 : Nat} {v1 : Int32} {M : Mem} {q : Int32 × Mem} (h : fU_kindFor v0 v1 M = some q) : ExM G l d 0 0 yU_kindFor cU_kindFor 3 (some .int) [.ref v0, .int v1] M (some (.int q.1)) q.2 := by
  refine ex_of hG (by decide +kernel) (Nat.le_of_ble_eq_true rfl) ?_
  intro X hl C E N hD hn
  show ZM G X 0 [(0, .ref v0), (1, .int v1)] [] M 0 0
  unfold fU_kindFor at h
  refine zz_iconst (v := 0) C ddU_kindFor_0 (by decide) ?_
  refine zz_istore_n (L1 := [(2, .int 0), (0, .ref v0), (1, .int v1)]) C ddU_kindFor_1 rfl N (by decide) rfl ?_
  refine zz_loc (L1 := [(0, .ref v0), (1, .int v1), (2, .int 0)]) [1, 2, 0] rfl ?_
  obtain ⟨q1, hq1, h⟩ := bindN h
  refine zLU_kindFor_2 hG C N hD hd 1000000 _ _ hq1 ?_ ?_
  · intro r2 eq1; replace eq1 := eq1.symm; subst eq1
    obtain rfl := Option.some.inj h
    exact E
  · intro y3 eq1; replace eq1 := eq1.symm; subst eq1
    exact zBU_kindFor_33 hG C N hD hd E h
theorem ddH_usedOf_0 : decode cH_usedOf 0 = .ok (.iload_n 1, 1) := by decide +kernel
theorem ddH_usedOf_1 : decode cH_usedOf 1 = .ok (.iconst 3, 1) := by decide +kernel
theorem ddH_usedOf_2 : decode cH_usedOf 2 = .ok (.imul, 1) := by decide +kernel
theorem ddH_usedOf_3 : decode cH_usedOf 3 = .ok (.istore_n 2, 1) := by decide +kernel
theorem ddH_usedOf_4 : decode cH_usedOf 4 = .ok (.aload_n 0, 1) := by decide +kernel
theorem ddH_usedOf_5 : decode cH_usedOf 5 = .ok (.getfield 18, 3) := by decide +kernel
theorem ddH_usedOf_8 : decode cH_usedOf 8 = .ok (.iload_n 1, 1) := by decide +kernel
theorem ddH_usedOf_9 : decode cH_usedOf 9 = .ok (.iaload, 1) := by decide +kernel
theorem ddH_usedOf_10 : decode cH_usedOf 10 = .ok (.aload_n 0, 1) := by decide +kernel
theorem ddH_usedOf_11 : decode cH_usedOf 11 = .ok (.getfield 30, 3) := by decide +kernel
theorem ddH_usedOf_14 : decode cH_usedOf 14 = .ok (.getfield 95, 3) := by decide +kernel
theorem ddH_usedOf_17 : decode cH_usedOf 17 = .ok (.iload_n 2, 1) := by decide +kernel
theorem ddH_usedOf_18 : decode cH_usedOf 18 = .ok (.iconst 0, 1) := by decide +kernel
theorem ddH_usedOf_19 : decode cH_usedOf 19 = .ok (.iadd, 1) := by decide +kernel
theorem ddH_usedOf_20 : decode cH_usedOf 20 = .ok (.iaload, 1) := by decide +kernel
theorem ddH_usedOf_21 : decode cH_usedOf 21 = .ok (.isub, 1) := by decide +kernel
theorem ddH_usedOf_22 : decode cH_usedOf 22 = .ok (.aload_n 0, 1) := by decide +kernel
theorem ddH_usedOf_23 : decode cH_usedOf 23 = .ok (.getfield 30, 3) := by decide +kernel
theorem ddH_usedOf_26 : decode cH_usedOf 26 = .ok (.getfield 95, 3) := by decide +kernel
theorem ddH_usedOf_29 : decode cH_usedOf 29 = .ok (.iload_n 2, 1) := by decide +kernel
theorem ddH_usedOf_30 : decode cH_usedOf 30 = .ok (.iconst 1, 1) := by decide +kernel
theorem ddH_usedOf_31 : decode cH_usedOf 31 = .ok (.iadd, 1) := by decide +kernel
theorem ddH_usedOf_32 : decode cH_usedOf 32 = .ok (.iaload, 1) := by decide +kernel
theorem ddH_usedOf_33 : decode cH_usedOf 33 = .ok (.isub, 1) := by decide +kernel
theorem ddH_usedOf_34 : decode cH_usedOf 34 = .ok (.aload_n 0, 1) := by decide +kernel
theorem ddH_usedOf_35 : decode cH_usedOf 35 = .ok (.getfield 30, 3) := by decide +kernel
theorem ddH_usedOf_38 : decode cH_usedOf 38 = .ok (.getfield 95, 3) := by decide +kernel
theorem ddH_usedOf_41 : decode cH_usedOf 41 = .ok (.iload_n 2, 1) := by decide +kernel
theorem ddH_usedOf_42 : decode cH_usedOf 42 = .ok (.iconst 2, 1) := by decide +kernel
theorem ddH_usedOf_43 : decode cH_usedOf 43 = .ok (.iadd, 1) := by decide +kernel
theorem ddH_usedOf_44 : decode cH_usedOf 44 = .ok (.iaload, 1) := by decide +kernel
theorem ddH_usedOf_45 : decode cH_usedOf 45 = .ok (.isub, 1) := by decide +kernel
theorem ddH_usedOf_46 : decode cH_usedOf 46 = .ok (.ireturn, 1) := by decide +kernel
set_option maxHeartbeats 2000000 in
theorem xH_usedOf {G : GXM} {l : Launch} (hG : GokM G) (d : Nat) (hd : 0 ≤ d) {v0 : Nat} {v1 : Int32} {M : Mem} {q : Int32 × Mem} (h : fH_usedOf v0 v1 M = some q) : ExM G l d 0 0 yH_usedOf cH_usedOf 3 (some .int) [.ref v0, .int v1] M (some (.int q.1)) q.2 := by
  refine ex_of hG (by decide +kernel) (Nat.le_of_ble_eq_true rfl) ?_
  intro X hl C E N hD hn
  show ZM G X 0 [(0, .ref v0), (1, .int v1)] [] M 0 0
  unfold fH_usedOf at h
  refine zz_iload_n C 1 ddH_usedOf_0 rfl rfl ?_
  refine zz_iconst (v := 3) C ddH_usedOf_1 (by decide) ?_
  refine zz_imul C ddH_usedOf_2 ?_
  refine zz_istore_n (L1 := [(2, .int (v1 * 3)), (0, .ref v0), (1, .int v1)]) C ddH_usedOf_3 rfl N (by decide) rfl ?_
  refine zz_aload_n C 1 ddH_usedOf_4 rfl rfl ?_
  obtain ⟨h1, h⟩ := gdN h
  obtain ⟨h2, h⟩ := gdN h
  refine zz_getr C ddH_usedOf_5 fl_H_18 rfl h1 (of_decide_eq_true h2) ?_
  refine zz_iload_n C 2 ddH_usedOf_8 rfl rfl ?_
  obtain ⟨h3, h⟩ := gdN h
  refine zz_iaload C ddH_usedOf_9 h3 ?_
  refine zz_aload_n C 1 ddH_usedOf_10 rfl rfl ?_
  obtain ⟨h4, h⟩ := gdN h
  refine zz_getr C ddH_usedOf_11 fl_H_30 rfl h1 (of_decide_eq_true h4) ?_
  obtain ⟨h5, h⟩ := gdN h
  obtain ⟨h6, h⟩ := gdN h
  refine zz_getr C ddH_usedOf_14 fl_H_95 rfl h5 (of_decide_eq_true h6) ?_
  refine zz_iload_n C 0 ddH_usedOf_17 rfl rfl ?_
  refine zz_iconst (v := 0) C ddH_usedOf_18 (by decide) ?_
  refine zz_iadd C ddH_usedOf_19 ?_
  obtain ⟨h7, h⟩ := gdN h
  refine zz_iaload C ddH_usedOf_20 h7 ?_
  refine zz_isub C ddH_usedOf_21 ?_
  refine zz_aload_n C 1 ddH_usedOf_22 rfl rfl ?_
  refine zz_getr C ddH_usedOf_23 fl_H_30 rfl h1 (of_decide_eq_true h4) ?_
  refine zz_getr C ddH_usedOf_26 fl_H_95 rfl h5 (of_decide_eq_true h6) ?_
  refine zz_iload_n C 0 ddH_usedOf_29 rfl rfl ?_
  refine zz_iconst (v := 1) C ddH_usedOf_30 (by decide) ?_
  refine zz_iadd C ddH_usedOf_31 ?_
  obtain ⟨h8, h⟩ := gdN h
  refine zz_iaload C ddH_usedOf_32 h8 ?_
  refine zz_isub C ddH_usedOf_33 ?_
  refine zz_aload_n C 1 ddH_usedOf_34 rfl rfl ?_
  refine zz_getr C ddH_usedOf_35 fl_H_30 rfl h1 (of_decide_eq_true h4) ?_
  refine zz_getr C ddH_usedOf_38 fl_H_95 rfl h5 (of_decide_eq_true h6) ?_
  refine zz_iload_n C 0 ddH_usedOf_41 rfl rfl ?_
  refine zz_iconst (v := 2) C ddH_usedOf_42 (by decide) ?_
  refine zz_iadd C ddH_usedOf_43 ?_
  obtain ⟨h9, h⟩ := gdN h
  refine zz_iaload C ddH_usedOf_44 h9 ?_
  refine zz_isub C ddH_usedOf_45 ?_
  obtain rfl := Option.some.inj h
  exact zz_iret C E ddH_usedOf_46
theorem ddH_pageFor_0 : decode cH_pageFor 0 = .ok (.aload_n 0, 1) := by decide +kernel
theorem ddH_pageFor_1 : decode cH_pageFor 1 = .ok (.getfield 26, 3) := by decide +kernel
theorem ddH_pageFor_4 : decode cH_pageFor 4 = .ok (.getfield 132, 3) := by decide +kernel
theorem ddH_pageFor_7 : decode cH_pageFor 7 = .ok (.aload_n 0, 1) := by decide +kernel
theorem ddH_pageFor_8 : decode cH_pageFor 8 = .ok (.iload_n 1, 1) := by decide +kernel
theorem ddH_pageFor_9 : decode cH_pageFor 9 = .ok (.iload_n 2, 1) := by decide +kernel
theorem ddH_pageFor_10 : decode cH_pageFor 10 = .ok (.invokevirtual 138, 3) := by decide +kernel
theorem ddH_pageFor_13 : decode cH_pageFor 13 = .ok (.iaload, 1) := by decide +kernel
theorem ddH_pageFor_14 : decode cH_pageFor 14 = .ok (.istore_n 3, 1) := by decide +kernel
theorem ddH_pageFor_15 : decode cH_pageFor 15 = .ok (.iconst 0, 1) := by decide +kernel
theorem ddH_pageFor_16 : decode cH_pageFor 16 = .ok (.istore 4, 2) := by decide +kernel
theorem ddH_pageFor_18 : decode cH_pageFor 18 = .ok (.iload 4, 2) := by decide +kernel
theorem ddH_pageFor_20 : decode cH_pageFor 20 = .ok (.bipush 16, 2) := by decide +kernel
theorem ddH_pageFor_22 : decode cH_pageFor 22 = .ok (.if_icmp .ge 40, 3) := by decide +kernel
theorem ddH_pageFor_25 : decode cH_pageFor 25 = .ok (.iload_n 3, 1) := by decide +kernel
theorem ddH_pageFor_26 : decode cH_pageFor 26 = .ok (.iconst (-1), 1) := by decide +kernel
theorem ddH_pageFor_27 : decode cH_pageFor 27 = .ok (.if_icmp .eq 35, 3) := by decide +kernel
theorem ddH_pageFor_30 : decode cH_pageFor 30 = .ok (.aload_n 0, 1) := by decide +kernel
theorem ddH_pageFor_31 : decode cH_pageFor 31 = .ok (.iload_n 3, 1) := by decide +kernel
theorem ddH_pageFor_32 : decode cH_pageFor 32 = .ok (.invokevirtual 102, 3) := by decide +kernel
theorem ddH_pageFor_35 : decode cH_pageFor 35 = .ok (.aload_n 0, 1) := by decide +kernel
theorem ddH_pageFor_36 : decode cH_pageFor 36 = .ok (.getfield 18, 3) := by decide +kernel
theorem ddH_pageFor_39 : decode cH_pageFor 39 = .ok (.iload_n 3, 1) := by decide +kernel
theorem ddH_pageFor_40 : decode cH_pageFor 40 = .ok (.iaload, 1) := by decide +kernel
theorem ddH_pageFor_41 : decode cH_pageFor 41 = .ok (.if_icmp .ge 5, 3) := by decide +kernel
theorem ddH_pageFor_44 : decode cH_pageFor 44 = .ok (.iload_n 3, 1) := by decide +kernel
theorem ddH_pageFor_45 : decode cH_pageFor 45 = .ok (.ireturn, 1) := by decide +kernel
theorem ddH_pageFor_46 : decode cH_pageFor 46 = .ok (.aload_n 0, 1) := by decide +kernel
theorem ddH_pageFor_47 : decode cH_pageFor 47 = .ok (.getfield 26, 3) := by decide +kernel
theorem ddH_pageFor_50 : decode cH_pageFor 50 = .ok (.getfield 135, 3) := by decide +kernel
theorem ddH_pageFor_53 : decode cH_pageFor 53 = .ok (.iload_n 3, 1) := by decide +kernel
theorem ddH_pageFor_54 : decode cH_pageFor 54 = .ok (.iaload, 1) := by decide +kernel
theorem ddH_pageFor_55 : decode cH_pageFor 55 = .ok (.istore_n 3, 1) := by decide +kernel
theorem ddH_pageFor_56 : decode cH_pageFor 56 = .ok (.iinc 4 1, 3) := by decide +kernel
theorem ddH_pageFor_59 : decode cH_pageFor 59 = .ok (.goto (-41), 3) := by decide +kernel
theorem ddH_pageFor_62 : decode cH_pageFor 62 = .ok (.iconst (-1), 1) := by decide +kernel
theorem ddH_pageFor_63 : decode cH_pageFor 63 = .ok (.istore 4, 2) := by decide +kernel
theorem ddH_pageFor_65 : decode cH_pageFor 65 = .ok (.iconst 0, 1) := by decide +kernel
theorem ddH_pageFor_66 : decode cH_pageFor 66 = .ok (.istore 5, 2) := by decide +kernel
theorem ddH_pageFor_68 : decode cH_pageFor 68 = .ok (.iload 5, 2) := by decide +kernel
theorem ddH_pageFor_70 : decode cH_pageFor 70 = .ok (.aload_n 0, 1) := by decide +kernel
theorem ddH_pageFor_71 : decode cH_pageFor 71 = .ok (.getfield 46, 3) := by decide +kernel
theorem ddH_pageFor_74 : decode cH_pageFor 74 = .ok (.getfield 76, 3) := by decide +kernel
theorem ddH_pageFor_77 : decode cH_pageFor 77 = .ok (.iconst 1, 1) := by decide +kernel
theorem ddH_pageFor_78 : decode cH_pageFor 78 = .ok (.iaload, 1) := by decide +kernel
theorem ddH_pageFor_79 : decode cH_pageFor 79 = .ok (.if_icmp .ge 76, 3) := by decide +kernel
theorem ddH_pageFor_82 : decode cH_pageFor 82 = .ok (.aload_n 0, 1) := by decide +kernel
theorem ddH_pageFor_83 : decode cH_pageFor 83 = .ok (.getfield 9, 3) := by decide +kernel
theorem ddH_pageFor_86 : decode cH_pageFor 86 = .ok (.iload 5, 2) := by decide +kernel
theorem ddH_pageFor_88 : decode cH_pageFor 88 = .ok (.iaload, 1) := by decide +kernel
theorem ddH_pageFor_89 : decode cH_pageFor 89 = .ok (.iload_n 2, 1) := by decide +kernel
theorem ddH_pageFor_90 : decode cH_pageFor 90 = .ok (.if_icmp .ne 33, 3) := by decide +kernel
theorem ddH_pageFor_93 : decode cH_pageFor 93 = .ok (.aload_n 0, 1) := by decide +kernel
theorem ddH_pageFor_94 : decode cH_pageFor 94 = .ok (.getfield 15, 3) := by decide +kernel
theorem ddH_pageFor_97 : decode cH_pageFor 97 = .ok (.iload 5, 2) := by decide +kernel
theorem ddH_pageFor_99 : decode cH_pageFor 99 = .ok (.iaload, 1) := by decide +kernel
theorem ddH_pageFor_100 : decode cH_pageFor 100 = .ok (.iconst (-1), 1) := by decide +kernel
theorem ddH_pageFor_101 : decode cH_pageFor 101 = .ok (.if_icmp .ne 22, 3) := by decide +kernel
theorem ddH_pageFor_104 : decode cH_pageFor 104 = .ok (.aload_n 0, 1) := by decide +kernel
theorem ddH_pageFor_105 : decode cH_pageFor 105 = .ok (.iload 5, 2) := by decide +kernel
theorem ddH_pageFor_107 : decode cH_pageFor 107 = .ok (.invokevirtual 102, 3) := by decide +kernel
theorem ddH_pageFor_110 : decode cH_pageFor 110 = .ok (.aload_n 0, 1) := by decide +kernel
theorem ddH_pageFor_111 : decode cH_pageFor 111 = .ok (.getfield 18, 3) := by decide +kernel
theorem ddH_pageFor_114 : decode cH_pageFor 114 = .ok (.iload 5, 2) := by decide +kernel
theorem ddH_pageFor_116 : decode cH_pageFor 116 = .ok (.iaload, 1) := by decide +kernel
theorem ddH_pageFor_117 : decode cH_pageFor 117 = .ok (.if_icmp .ge 6, 3) := by decide +kernel
theorem ddH_pageFor_120 : decode cH_pageFor 120 = .ok (.iload 5, 2) := by decide +kernel
theorem ddH_pageFor_122 : decode cH_pageFor 122 = .ok (.ireturn, 1) := by decide +kernel
theorem ddH_pageFor_123 : decode cH_pageFor 123 = .ok (.iload 4, 2) := by decide +kernel
theorem ddH_pageFor_125 : decode cH_pageFor 125 = .ok (.iconst (-1), 1) := by decide +kernel
theorem ddH_pageFor_126 : decode cH_pageFor 126 = .ok (.if_icmp .ne 19, 3) := by decide +kernel
theorem ddH_pageFor_129 : decode cH_pageFor 129 = .ok (.aload_n 0, 1) := by decide +kernel
theorem ddH_pageFor_130 : decode cH_pageFor 130 = .ok (.getfield 9, 3) := by decide +kernel
theorem ddH_pageFor_133 : decode cH_pageFor 133 = .ok (.iload 5, 2) := by decide +kernel
theorem ddH_pageFor_135 : decode cH_pageFor 135 = .ok (.iaload, 1) := by decide +kernel
theorem ddH_pageFor_136 : decode cH_pageFor 136 = .ok (.iconst (-1), 1) := by decide +kernel
theorem ddH_pageFor_137 : decode cH_pageFor 137 = .ok (.if_icmp .ne 8, 3) := by decide +kernel
theorem ddH_pageFor_140 : decode cH_pageFor 140 = .ok (.iload 5, 2) := by decide +kernel
theorem ddH_pageFor_142 : decode cH_pageFor 142 = .ok (.goto 5, 3) := by decide +kernel
theorem ddH_pageFor_145 : decode cH_pageFor 145 = .ok (.iload 4, 2) := by decide +kernel
theorem ddH_pageFor_147 : decode cH_pageFor 147 = .ok (.istore 4, 2) := by decide +kernel
theorem ddH_pageFor_149 : decode cH_pageFor 149 = .ok (.iinc 5 1, 3) := by decide +kernel
theorem ddH_pageFor_152 : decode cH_pageFor 152 = .ok (.goto (-84), 3) := by decide +kernel
theorem ddH_pageFor_155 : decode cH_pageFor 155 = .ok (.iload 4, 2) := by decide +kernel
theorem ddH_pageFor_157 : decode cH_pageFor 157 = .ok (.ireturn, 1) := by decide +kernel
set_option maxHeartbeats 2000000 in
theorem zBH_pageFor_147 {G : GXM} {X : CxM} (hG : GokM G) (C : CoM G X cH_pageFor "HomeFreed$Heap") (N : mLM X = 6) {d : Nat} (hD : dpM X = d) (hd : 1 ≤ d) {v0 : Nat} {v2 : Int32} {K : Nat → Int32 → Int32 → Int32 → Mem → Option ((Int32 × Mem))} {q : (Int32 × Mem)} (hK : ∀ (v4 : Int32) (v5 : Int32) (M : Mem), K v0 v2 v4 v5 M = some q → ZM G X 68 [(0, .ref v0), (2, .int v2), (4, .int v4), (5, .int v5)] [] M 0 0) (hr : ∀ r : Int32 × Mem, q =  r → EnM G X (some .int) (some (.int r.1)) r.2 0 0) {v5 : Int32} {w0 : Int32} {M : Mem} (h : BH_pageFor_147 K v0 v2 v5 w0 M = some q) : ZM G X 147 [(0, .ref v0), (2, .int v2), (5, .int v5)] [.int w0] M 0 0 := by
  unfold BH_pageFor_147 at h
  refine zz_istore (L1 := [(4, .int w0), (0, .ref v0), (2, .int v2), (5, .int v5)]) C ddH_pageFor_147 N (by decide) rfl ?_
  refine zz_iinc (v := v5 + 1) (L1 := [(5, .int (v5 + 1)), (4, .int w0), (0, .ref v0), (2, .int v2)]) C 3 ddH_pageFor_149 rfl rfl N (by decide) rfl ?_
  refine zz_goto (tgt := 68) C ddH_pageFor_152 rfl ?_
  refine zz_loc (L1 := [(0, .ref v0), (2, .int v2), (4, .int w0), (5, .int (v5 + 1))]) [2, 3, 1, 0] rfl ?_
  exact hK _ _ _ h
set_option maxHeartbeats 2000000 in
theorem zBH_pageFor_145 {G : GXM} {X : CxM} (hG : GokM G) (C : CoM G X cH_pageFor "HomeFreed$Heap") (N : mLM X = 6) {d : Nat} (hD : dpM X = d) (hd : 1 ≤ d) {v0 : Nat} {v2 : Int32} {K : Nat → Int32 → Int32 → Int32 → Mem → Option ((Int32 × Mem))} {q : (Int32 × Mem)} (hK : ∀ (v4 : Int32) (v5 : Int32) (M : Mem), K v0 v2 v4 v5 M = some q → ZM G X 68 [(0, .ref v0), (2, .int v2), (4, .int v4), (5, .int v5)] [] M 0 0) (hr : ∀ r : Int32 × Mem, q =  r → EnM G X (some .int) (some (.int r.1)) r.2 0 0) {v4 : Int32} {v5 : Int32} {M : Mem} (h : BH_pageFor_145 K v0 v2 v4 v5 M = some q) : ZM G X 145 [(0, .ref v0), (2, .int v2), (4, .int v4), (5, .int v5)] [] M 0 0 := by
  unfold BH_pageFor_145 at h
  refine zz_iload C 2 ddH_pageFor_145 rfl ?_
  refine zz_loc (L1 := [(0, .ref v0), (2, .int v2), (5, .int v5)]) [0, 1, 3] rfl ?_
  exact zBH_pageFor_147 hG C N hD hd hK hr h
set_option maxHeartbeats 2000000 in
theorem zBH_pageFor_123 {G : GXM} {X : CxM} (hG : GokM G) (C : CoM G X cH_pageFor "HomeFreed$Heap") (N : mLM X = 6) {d : Nat} (hD : dpM X = d) (hd : 1 ≤ d) {v0 : Nat} {v2 : Int32} {K : Nat → Int32 → Int32 → Int32 → Mem → Option ((Int32 × Mem))} {q : (Int32 × Mem)} (hK : ∀ (v4 : Int32) (v5 : Int32) (M : Mem), K v0 v2 v4 v5 M = some q → ZM G X 68 [(0, .ref v0), (2, .int v2), (4, .int v4), (5, .int v5)] [] M 0 0) (hr : ∀ r : Int32 × Mem, q =  r → EnM G X (some .int) (some (.int r.1)) r.2 0 0) {v4 : Int32} {v5 : Int32} {M : Mem} (h : BH_pageFor_123 K v0 v2 v4 v5 M = some q) : ZM G X 123 [(0, .ref v0), (2, .int v2), (4, .int v4), (5, .int v5)] [] M 0 0 := by
  unfold BH_pageFor_123 at h
  refine zz_iload C 2 ddH_pageFor_123 rfl ?_
  refine zz_iconst (v := (-1)) C ddH_pageFor_125 (by decide) ?_
  refine zz_icmp_ne (tgt := 145) C ddH_pageFor_126 rfl (fun hc => ?_) (fun hc => ?_)
  · replace h := iteF h hc
    exact zBH_pageFor_145 hG C N hD hd hK hr h
  · replace h := iteT h hc
    refine zz_aload_n C 0 ddH_pageFor_129 rfl rfl ?_
    obtain ⟨h1, h⟩ := gdN h
    obtain ⟨h2, h⟩ := gdN h
    refine zz_getr C ddH_pageFor_130 fl_H_9 rfl h1 (of_decide_eq_true h2) ?_
    refine zz_iload C 3 ddH_pageFor_133 rfl ?_
    obtain ⟨h3, h⟩ := gdN h
    refine zz_iaload C ddH_pageFor_135 h3 ?_
    refine zz_iconst (v := (-1)) C ddH_pageFor_136 (by decide) ?_
    refine zz_icmp_ne (tgt := 145) C ddH_pageFor_137 rfl (fun hc => ?_) (fun hc => ?_)
    · replace h := iteF h hc
      exact zBH_pageFor_145 hG C N hD hd hK hr h
    · replace h := iteT h hc
      refine zz_iload C 3 ddH_pageFor_140 rfl ?_
      refine zz_goto (tgt := 147) C ddH_pageFor_142 rfl ?_
      refine zz_loc (L1 := [(0, .ref v0), (2, .int v2), (5, .int v5)]) [0, 1, 3] rfl ?_
      exact zBH_pageFor_147 hG C N hD hd hK hr h
set_option maxHeartbeats 2000000 in
theorem zBH_pageFor_68 {G : GXM} {X : CxM} (hG : GokM G) (C : CoM G X cH_pageFor "HomeFreed$Heap") (N : mLM X = 6) {d : Nat} (hD : dpM X = d) (hd : 1 ≤ d) {v0 : Nat} {v2 : Int32} {K : Nat → Int32 → Int32 → Int32 → Mem → Option ((Int32 × Mem))} {q : (Int32 × Mem)} (hK : ∀ (v4 : Int32) (v5 : Int32) (M : Mem), K v0 v2 v4 v5 M = some q → ZM G X 68 [(0, .ref v0), (2, .int v2), (4, .int v4), (5, .int v5)] [] M 0 0) (hr : ∀ r : Int32 × Mem, q =  r → EnM G X (some .int) (some (.int r.1)) r.2 0 0) {v4 : Int32} {v5 : Int32} {M : Mem} (h : BH_pageFor_68 K v0 v2 v4 v5 M = some q) : ZM G X 68 [(0, .ref v0), (2, .int v2), (4, .int v4), (5, .int v5)] [] M 0 0 := by
  unfold BH_pageFor_68 at h
  refine zz_iload C 3 ddH_pageFor_68 rfl ?_
  refine zz_aload_n C 0 ddH_pageFor_70 rfl rfl ?_
  obtain ⟨h1, h⟩ := gdN h
  obtain ⟨h2, h⟩ := gdN h
  refine zz_getr C ddH_pageFor_71 fl_H_46 rfl h1 (of_decide_eq_true h2) ?_
  obtain ⟨h3, h⟩ := gdN h
  obtain ⟨h4, h⟩ := gdN h
  refine zz_getr C ddH_pageFor_74 fl_H_76 rfl h3 (of_decide_eq_true h4) ?_
  refine zz_iconst (v := 1) C ddH_pageFor_77 (by decide) ?_
  obtain ⟨h5, h⟩ := gdN h
  refine zz_iaload C ddH_pageFor_78 h5 ?_
  refine zz_icmp_ge (tgt := 155) C ddH_pageFor_79 rfl (fun hc => ?_) (fun hc => ?_)
  · replace h := iteT h hc
    refine zz_iload C 2 ddH_pageFor_155 rfl ?_
    exact zz_iret C (hr _ (Option.some.inj h).symm) ddH_pageFor_157
  · replace h := iteF h hc
    refine zz_aload_n C 0 ddH_pageFor_82 rfl rfl ?_
    obtain ⟨h6, h⟩ := gdN h
    refine zz_getr C ddH_pageFor_83 fl_H_9 rfl h1 (of_decide_eq_true h6) ?_
    refine zz_iload C 3 ddH_pageFor_86 rfl ?_
    obtain ⟨h7, h⟩ := gdN h
    refine zz_iaload C ddH_pageFor_88 h7 ?_
    refine zz_iload_n C 1 ddH_pageFor_89 rfl rfl ?_
    refine zz_icmp_ne (tgt := 123) C ddH_pageFor_90 rfl (fun hc => ?_) (fun hc => ?_)
    · replace h := iteF h hc
      exact zBH_pageFor_123 hG C N hD hd hK hr h
    · replace h := iteT h hc
      refine zz_aload_n C 0 ddH_pageFor_93 rfl rfl ?_
      obtain ⟨h8, h⟩ := gdN h
      refine zz_getr C ddH_pageFor_94 fl_H_15 rfl h1 (of_decide_eq_true h8) ?_
      refine zz_iload C 3 ddH_pageFor_97 rfl ?_
      obtain ⟨h9, h⟩ := gdN h
      refine zz_iaload C ddH_pageFor_99 h9 ?_
      refine zz_iconst (v := (-1)) C ddH_pageFor_100 (by decide) ?_
      refine zz_icmp_ne (tgt := 123) C ddH_pageFor_101 rfl (fun hc => ?_) (fun hc => ?_)
      · replace h := iteF h hc
        exact zBH_pageFor_123 hG C N hD hd hK hr h
      · replace h := iteT h hc
        refine zz_aload_n C 0 ddH_pageFor_104 rfl rfl ?_
        refine zz_iload C 3 ddH_pageFor_105 rfl ?_
        obtain ⟨q10, hq10, h⟩ := bindN h
        refine zz_callV0 (As := [.int v5]) C ddH_pageFor_107 wd_670 my_H_usedOf mv_H_usedOf ⟨_, rfl, rfl⟩ (xH_usedOf hG (d - 1) (by omega) hq10) (by omega) h1 rfl rfl (Nat.le_of_ble_eq_true rfl) ?_
        refine zz_aload_n C 0 ddH_pageFor_110 rfl rfl ?_
        obtain ⟨h11, h⟩ := gdN h
        obtain ⟨h12, h⟩ := gdN h
        refine zz_getr C ddH_pageFor_111 fl_H_18 rfl h11 (of_decide_eq_true h12) ?_
        refine zz_iload C 3 ddH_pageFor_114 rfl ?_
        obtain ⟨h13, h⟩ := gdN h
        refine zz_iaload C ddH_pageFor_116 h13 ?_
        refine zz_icmp_ge (tgt := 123) C ddH_pageFor_117 rfl (fun hc => ?_) (fun hc => ?_)
        · replace h := iteT h hc
          exact zBH_pageFor_123 hG C N hD hd hK hr h
        · replace h := iteF h hc
          refine zz_iload C 3 ddH_pageFor_120 rfl ?_
          exact zz_iret C (hr _ (Option.some.inj h).symm) ddH_pageFor_122
set_option maxHeartbeats 2000000 in
theorem zLH_pageFor_68 {G : GXM} {X : CxM} (hG : GokM G) (C : CoM G X cH_pageFor "HomeFreed$Heap") (N : mLM X = 6) {d : Nat} (hD : dpM X = d) (hd : 1 ≤ d) {v0 : Nat} {v2 : Int32} {q : (Int32 × Mem)} : ∀ (f : Nat) (v4 : Int32) (v5 : Int32) (M : Mem), LH_pageFor_68 f v0 v2 v4 v5 M = some q → (hr : ∀ r : Int32 × Mem, q =  r → EnM G X (some .int) (some (.int r.1)) r.2 0 0) → ZM G X 68 [(0, .ref v0), (2, .int v2), (4, .int v4), (5, .int v5)] [] M 0 0 := by
  intro f
  induction f with
  | zero => intro v4 v5 M h; cases h
  | succ f ih =>
    intro v4 v5 M h hr
    exact zBH_pageFor_68 hG C N hD hd (K := LH_pageFor_68 f) (q := q) (fun v4 v5 M h => ih v4 v5 M h hr) hr h
set_option maxHeartbeats 2000000 in
theorem zBH_pageFor_62 {G : GXM} {X : CxM} (hG : GokM G) (C : CoM G X cH_pageFor "HomeFreed$Heap") (N : mLM X = 6) {d : Nat} (hD : dpM X = d) (hd : 1 ≤ d)  {q : Int32 × Mem} (E : EnM G X (some .int) (some (.int q.1)) q.2 0 0) {v0 : Nat} {v2 : Int32} {M : Mem} (h : BH_pageFor_62 v0 v2 M = some q) : ZM G X 62 [(0, .ref v0), (2, .int v2)] [] M 0 0 := by
  unfold BH_pageFor_62 at h
  refine zz_iconst (v := (-1)) C ddH_pageFor_62 (by decide) ?_
  refine zz_istore (L1 := [(4, .int ((-1))), (0, .ref v0), (2, .int v2)]) C ddH_pageFor_63 N (by decide) rfl ?_
  refine zz_iconst (v := 0) C ddH_pageFor_65 (by decide) ?_
  refine zz_istore (L1 := [(5, .int 0), (4, .int ((-1))), (0, .ref v0), (2, .int v2)]) C ddH_pageFor_66 N (by decide) rfl ?_
  refine zz_loc (L1 := [(0, .ref v0), (2, .int v2), (4, .int ((-1))), (5, .int 0)]) [2, 3, 1, 0] rfl ?_
  obtain ⟨q1, hq1, h⟩ := bindN h
  refine zLH_pageFor_68 hG C N hD hd 1000000 _ _ _ hq1 ?_
  · intro r2 eq1; replace eq1 := eq1.symm; subst eq1
    obtain rfl := Option.some.inj h
    exact E
set_option maxHeartbeats 2000000 in
theorem zBH_pageFor_18 {G : GXM} {X : CxM} (hG : GokM G) (C : CoM G X cH_pageFor "HomeFreed$Heap") (N : mLM X = 6) {d : Nat} (hD : dpM X = d) (hd : 1 ≤ d) {v0 : Nat} {v2 : Int32} {K : Nat → Int32 → Int32 → Int32 → Mem → Option ((Int32 × Mem) ⊕ (Mem))} {q : (Int32 × Mem) ⊕ (Mem)} (hK : ∀ (v3 : Int32) (v4 : Int32) (M : Mem), K v0 v2 v3 v4 M = some q → ZM G X 18 [(0, .ref v0), (2, .int v2), (3, .int v3), (4, .int v4)] [] M 0 0) (hr : ∀ r : Int32 × Mem, q = .inl r → EnM G X (some .int) (some (.int r.1)) r.2 0 0) (hx0 : ∀ y : Mem, q = (.inr y) → ZM G X 62 [(0, .ref v0), (2, .int v2)] [] y 0 0) {v3 : Int32} {v4 : Int32} {M : Mem} (h : BH_pageFor_18 K v0 v2 v3 v4 M = some q) : ZM G X 18 [(0, .ref v0), (2, .int v2), (3, .int v3), (4, .int v4)] [] M 0 0 := by
  unfold BH_pageFor_18 at h
  refine zz_iload C 3 ddH_pageFor_18 rfl ?_
  refine zz_bipush (v := 16) C ddH_pageFor_20 (by decide) ?_
  refine zz_icmp_ge (tgt := 62) C ddH_pageFor_22 rfl (fun hc => ?_) (fun hc => ?_)
  · replace h := iteT h hc
    refine zz_loc (L1 := [(0, .ref v0), (2, .int v2)]) [0, 1] rfl ?_
    exact hx0 _ (Option.some.inj h).symm
  · replace h := iteF h hc
    refine zz_iload_n C 2 ddH_pageFor_25 rfl rfl ?_
    refine zz_iconst (v := (-1)) C ddH_pageFor_26 (by decide) ?_
    refine zz_icmp_eq (tgt := 62) C ddH_pageFor_27 rfl (fun hc => ?_) (fun hc => ?_)
    · replace h := iteT h hc
      refine zz_loc (L1 := [(0, .ref v0), (2, .int v2)]) [0, 1] rfl ?_
      exact hx0 _ (Option.some.inj h).symm
    · replace h := iteF h hc
      refine zz_aload_n C 0 ddH_pageFor_30 rfl rfl ?_
      refine zz_iload_n C 2 ddH_pageFor_31 rfl rfl ?_
      obtain ⟨h2, h⟩ := gdN h
      obtain ⟨q1, hq1, h⟩ := bindN h
      refine zz_callV0 (As := [.int v3]) C ddH_pageFor_32 wd_670 my_H_usedOf mv_H_usedOf ⟨_, rfl, rfl⟩ (xH_usedOf hG (d - 1) (by omega) hq1) (by omega) h2 rfl rfl (Nat.le_of_ble_eq_true rfl) ?_
      refine zz_aload_n C 0 ddH_pageFor_35 rfl rfl ?_
      obtain ⟨h3, h⟩ := gdN h
      obtain ⟨h4, h⟩ := gdN h
      refine zz_getr C ddH_pageFor_36 fl_H_18 rfl h3 (of_decide_eq_true h4) ?_
      refine zz_iload_n C 2 ddH_pageFor_39 rfl rfl ?_
      obtain ⟨h5, h⟩ := gdN h
      refine zz_iaload C ddH_pageFor_40 h5 ?_
      refine zz_icmp_ge (tgt := 46) C ddH_pageFor_41 rfl (fun hc => ?_) (fun hc => ?_)
      · replace h := iteT h hc
        refine zz_aload_n C 0 ddH_pageFor_46 rfl rfl ?_
        obtain ⟨h6, h⟩ := gdN h
        refine zz_getr C ddH_pageFor_47 fl_H_26 rfl h3 (of_decide_eq_true h6) ?_
        obtain ⟨h7, h⟩ := gdN h
        obtain ⟨h8, h⟩ := gdN h
        refine zz_getr C ddH_pageFor_50 fl_H_135 rfl h7 (of_decide_eq_true h8) ?_
        refine zz_iload_n C 2 ddH_pageFor_53 rfl rfl ?_
        obtain ⟨h9, h⟩ := gdN h
        refine zz_iaload C ddH_pageFor_54 h9 ?_
        refine zz_istore_n (L1 := [(3, .int (giM q1.2 (grM q1.2 (grM q1.2 v0 4) 2) (Int32.toNatClampNeg v3))), (0, .ref v0), (2, .int v2), (4, .int v4)]) C ddH_pageFor_55 rfl N (by decide) rfl ?_
        refine zz_iinc (v := v4 + 1) (L1 := [(4, .int (v4 + 1)), (3, .int (giM q1.2 (grM q1.2 (grM q1.2 v0 4) 2) (Int32.toNatClampNeg v3))), (0, .ref v0), (2, .int v2)]) C 3 ddH_pageFor_56 rfl rfl N (by decide) rfl ?_
        refine zz_goto (tgt := 18) C ddH_pageFor_59 rfl ?_
        refine zz_loc (L1 := [(0, .ref v0), (2, .int v2), (3, .int (giM q1.2 (grM q1.2 (grM q1.2 v0 4) 2) (Int32.toNatClampNeg v3))), (4, .int (v4 + 1))]) [2, 3, 1, 0] rfl ?_
        exact hK _ _ _ h
      · replace h := iteF h hc
        refine zz_iload_n C 2 ddH_pageFor_44 rfl rfl ?_
        exact zz_iret C (hr _ (Option.some.inj h).symm) ddH_pageFor_45
set_option maxHeartbeats 2000000 in
theorem zLH_pageFor_18 {G : GXM} {X : CxM} (hG : GokM G) (C : CoM G X cH_pageFor "HomeFreed$Heap") (N : mLM X = 6) {d : Nat} (hD : dpM X = d) (hd : 1 ≤ d) {v0 : Nat} {v2 : Int32} {q : (Int32 × Mem) ⊕ (Mem)} : ∀ (f : Nat) (v3 : Int32) (v4 : Int32) (M : Mem), LH_pageFor_18 f v0 v2 v3 v4 M = some q → (hr : ∀ r : Int32 × Mem, q = .inl r → EnM G X (some .int) (some (.int r.1)) r.2 0 0) → (hx0 : ∀ y : Mem, q = (.inr y) → ZM G X 62 [(0, .ref v0), (2, .int v2)] [] y 0 0) → ZM G X 18 [(0, .ref v0), (2, .int v2), (3, .int v3), (4, .int v4)] [] M 0 0 := by
  intro f
  induction f with
  | zero => intro v3 v4 M h; cases h
  | succ f ih =>
    intro v3 v4 M h hr hx0
    exact zBH_pageFor_18 hG C N hD hd (K := LH_pageFor_18 f) (q := q) (fun v3 v4 M h => ih v3 v4 M h hr hx0) hr hx0 h
set_option maxHeartbeats 2000000 in
theorem xH_pageFor {G : GXM} {l : Launch} (hG : GokM G) (d : Nat) (hd : 1 ≤ d) {v0 : Nat} {v1 : Int32} {v2 : Int32} {M : Mem} {q : Int32 × Mem} (h : fH_pageFor v0 v1 v2 M = some q) : ExM G l d 0 0 yH_pageFor cH_pageFor 6 (some .int) [.ref v0, .int v1, .int v2] M (some (.int q.1)) q.2 := by
  refine ex_of hG (by decide +kernel) (Nat.le_of_ble_eq_true rfl) ?_
  intro X hl C E N hD hn
  show ZM G X 0 [(0, .ref v0), (1, .int v1), (2, .int v2)] [] M 0 0
  unfold fH_pageFor at h
  refine zz_aload_n C 0 ddH_pageFor_0 rfl rfl ?_
  obtain ⟨h1, h⟩ := gdN h
  obtain ⟨h2, h⟩ := gdN h
  refine zz_getr C ddH_pageFor_1 fl_H_26 rfl h1 (of_decide_eq_true h2) ?_
  obtain ⟨h3, h⟩ := gdN h
  obtain ⟨h4, h⟩ := gdN h
  refine zz_getr C ddH_pageFor_4 fl_H_132 rfl h3 (of_decide_eq_true h4) ?_
  refine zz_aload_n C 0 ddH_pageFor_7 rfl rfl ?_
  refine zz_iload_n C 1 ddH_pageFor_8 rfl rfl ?_
  refine zz_iload_n C 2 ddH_pageFor_9 rfl rfl ?_
  obtain ⟨q5, hq5, h⟩ := bindN h
  refine zz_callV0 (As := [.int v1, .int v2]) C ddH_pageFor_10 wd_669 my_H_queueOf mv_H_queueOf ⟨_, rfl, rfl⟩ (xH_queueOf hG (d - 1) (by omega) hq5) (by omega) h1 rfl rfl (Nat.le_of_ble_eq_true rfl) ?_
  obtain ⟨h6, h⟩ := gdN h
  refine zz_iaload C ddH_pageFor_13 h6 ?_
  refine zz_istore_n (L1 := [(3, .int (giM q5.2 (grM M (grM M v0 4) 0) (Int32.toNatClampNeg q5.1))), (0, .ref v0), (1, .int v1), (2, .int v2)]) C ddH_pageFor_14 rfl N (by decide) rfl ?_
  refine zz_iconst (v := 0) C ddH_pageFor_15 (by decide) ?_
  refine zz_istore (L1 := [(4, .int 0), (3, .int (giM q5.2 (grM M (grM M v0 4) 0) (Int32.toNatClampNeg q5.1))), (0, .ref v0), (1, .int v1), (2, .int v2)]) C ddH_pageFor_16 N (by decide) rfl ?_
  refine zz_loc (L1 := [(0, .ref v0), (2, .int v2), (3, .int (giM q5.2 (grM M (grM M v0 4) 0) (Int32.toNatClampNeg q5.1))), (4, .int 0)]) [2, 4, 1, 0] rfl ?_
  obtain ⟨q7, hq7, h⟩ := bindN h
  refine zLH_pageFor_18 hG C N hD hd 1000000 _ _ _ hq7 ?_ ?_
  · intro r8 eq7; replace eq7 := eq7.symm; subst eq7
    obtain rfl := Option.some.inj h
    exact E
  · intro y9 eq7; replace eq7 := eq7.symm; subst eq7
    exact zBH_pageFor_62 hG C N hD hd E h
theorem ddC_copyFrom_0 : decode cC_copyFrom 0 = .ok (.aload_n 1, 1) := by decide +kernel
theorem ddC_copyFrom_1 : decode cC_copyFrom 1 = .ok (.getfield 9, 3) := by decide +kernel
theorem ddC_copyFrom_4 : decode cC_copyFrom 4 = .ok (.iconst 0, 1) := by decide +kernel
theorem ddC_copyFrom_5 : decode cC_copyFrom 5 = .ok (.aload_n 0, 1) := by decide +kernel
theorem ddC_copyFrom_6 : decode cC_copyFrom 6 = .ok (.getfield 9, 3) := by decide +kernel
theorem ddC_copyFrom_9 : decode cC_copyFrom 9 = .ok (.iconst 0, 1) := by decide +kernel
theorem ddC_copyFrom_10 : decode cC_copyFrom 10 = .ok (.aload_n 0, 1) := by decide +kernel
theorem ddC_copyFrom_11 : decode cC_copyFrom 11 = .ok (.getfield 9, 3) := by decide +kernel
theorem ddC_copyFrom_14 : decode cC_copyFrom 14 = .ok (.arraylength, 1) := by decide +kernel
theorem ddC_copyFrom_15 : decode cC_copyFrom 15 = .ok (.invokestatic 30, 3) := by decide +kernel
theorem ddC_copyFrom_18 : decode cC_copyFrom 18 = .ok (.aload_n 1, 1) := by decide +kernel
theorem ddC_copyFrom_19 : decode cC_copyFrom 19 = .ok (.getfield 15, 3) := by decide +kernel
theorem ddC_copyFrom_22 : decode cC_copyFrom 22 = .ok (.iconst 0, 1) := by decide +kernel
theorem ddC_copyFrom_23 : decode cC_copyFrom 23 = .ok (.aload_n 0, 1) := by decide +kernel
theorem ddC_copyFrom_24 : decode cC_copyFrom 24 = .ok (.getfield 15, 3) := by decide +kernel
theorem ddC_copyFrom_27 : decode cC_copyFrom 27 = .ok (.iconst 0, 1) := by decide +kernel
theorem ddC_copyFrom_28 : decode cC_copyFrom 28 = .ok (.aload_n 0, 1) := by decide +kernel
theorem ddC_copyFrom_29 : decode cC_copyFrom 29 = .ok (.getfield 15, 3) := by decide +kernel
theorem ddC_copyFrom_32 : decode cC_copyFrom 32 = .ok (.arraylength, 1) := by decide +kernel
theorem ddC_copyFrom_33 : decode cC_copyFrom 33 = .ok (.invokestatic 30, 3) := by decide +kernel
theorem ddC_copyFrom_36 : decode cC_copyFrom 36 = .ok (.aload_n 1, 1) := by decide +kernel
theorem ddC_copyFrom_37 : decode cC_copyFrom 37 = .ok (.getfield 18, 3) := by decide +kernel
theorem ddC_copyFrom_40 : decode cC_copyFrom 40 = .ok (.iconst 0, 1) := by decide +kernel
theorem ddC_copyFrom_41 : decode cC_copyFrom 41 = .ok (.aload_n 0, 1) := by decide +kernel
theorem ddC_copyFrom_42 : decode cC_copyFrom 42 = .ok (.getfield 18, 3) := by decide +kernel
theorem ddC_copyFrom_45 : decode cC_copyFrom 45 = .ok (.iconst 0, 1) := by decide +kernel
theorem ddC_copyFrom_46 : decode cC_copyFrom 46 = .ok (.aload_n 0, 1) := by decide +kernel
theorem ddC_copyFrom_47 : decode cC_copyFrom 47 = .ok (.getfield 18, 3) := by decide +kernel
theorem ddC_copyFrom_50 : decode cC_copyFrom 50 = .ok (.arraylength, 1) := by decide +kernel
theorem ddC_copyFrom_51 : decode cC_copyFrom 51 = .ok (.invokestatic 30, 3) := by decide +kernel
theorem ddC_copyFrom_54 : decode cC_copyFrom 54 = .ok (.aload_n 1, 1) := by decide +kernel
theorem ddC_copyFrom_55 : decode cC_copyFrom 55 = .ok (.getfield 21, 3) := by decide +kernel
theorem ddC_copyFrom_58 : decode cC_copyFrom 58 = .ok (.iconst 0, 1) := by decide +kernel
theorem ddC_copyFrom_59 : decode cC_copyFrom 59 = .ok (.aload_n 0, 1) := by decide +kernel
theorem ddC_copyFrom_60 : decode cC_copyFrom 60 = .ok (.getfield 21, 3) := by decide +kernel
theorem ddC_copyFrom_63 : decode cC_copyFrom 63 = .ok (.iconst 0, 1) := by decide +kernel
theorem ddC_copyFrom_64 : decode cC_copyFrom 64 = .ok (.aload_n 0, 1) := by decide +kernel
theorem ddC_copyFrom_65 : decode cC_copyFrom 65 = .ok (.getfield 21, 3) := by decide +kernel
theorem ddC_copyFrom_68 : decode cC_copyFrom 68 = .ok (.arraylength, 1) := by decide +kernel
theorem ddC_copyFrom_69 : decode cC_copyFrom 69 = .ok (.invokestatic 30, 3) := by decide +kernel
theorem ddC_copyFrom_72 : decode cC_copyFrom 72 = .ok (.return_, 1) := by decide +kernel
set_option maxHeartbeats 2000000 in
theorem xC_copyFrom {G : GXM} {l : Launch} (hG : GokM G) (d : Nat) (hd : 1 ≤ d) {v0 : Nat} {v1 : Nat} {M : Mem} {q : Mem} (h : fC_copyFrom v0 v1 M = some q) : ExM G l d 0 0 yC_copyFrom cC_copyFrom 2 none [.ref v0, .ref v1] M none q := by
  refine ex_of hG (by decide +kernel) (Nat.le_of_ble_eq_true rfl) ?_
  intro X hl C E N hD hn
  show ZM G X 0 [(0, .ref v0), (1, .ref v1)] [] M 0 0
  unfold fC_copyFrom at h
  refine zz_aload_n C 1 ddC_copyFrom_0 rfl rfl ?_
  obtain ⟨h1, h⟩ := gdN h
  obtain ⟨h2, h⟩ := gdN h
  refine zz_getr C ddC_copyFrom_1 fl_C_9 rfl h1 (of_decide_eq_true h2) ?_
  refine zz_iconst (v := 0) C ddC_copyFrom_4 (by decide) ?_
  refine zz_aload_n C 0 ddC_copyFrom_5 rfl rfl ?_
  obtain ⟨h3, h⟩ := gdN h
  obtain ⟨h4, h⟩ := gdN h
  refine zz_getr C ddC_copyFrom_6 fl_C_9 rfl h3 (of_decide_eq_true h4) ?_
  refine zz_iconst (v := 0) C ddC_copyFrom_9 (by decide) ?_
  refine zz_aload_n C 0 ddC_copyFrom_10 rfl rfl ?_
  refine zz_getr C ddC_copyFrom_11 fl_C_9 rfl h3 (of_decide_eq_true h4) ?_
  obtain ⟨h5, h⟩ := gdN h
  refine zz_alenI C ddC_copyFrom_14 h5 ?_
  obtain ⟨h6, h⟩ := gdN h
  refine zz_copy C ddC_copyFrom_15 wd_687 ⟨wd_362, wd_361, wd_14⟩ h6 (by omega) (Nat.le_of_ble_eq_true rfl) ?_
  refine zz_aload_n C 1 ddC_copyFrom_18 rfl rfl ?_
  obtain ⟨h7, h⟩ := gdN h
  refine zz_getr C ddC_copyFrom_19 fl_C_15 rfl h1 (of_decide_eq_true h7) ?_
  refine zz_iconst (v := 0) C ddC_copyFrom_22 (by decide) ?_
  refine zz_aload_n C 0 ddC_copyFrom_23 rfl rfl ?_
  obtain ⟨h8, h⟩ := gdN h
  refine zz_getr C ddC_copyFrom_24 fl_C_15 rfl h3 (of_decide_eq_true h8) ?_
  refine zz_iconst (v := 0) C ddC_copyFrom_27 (by decide) ?_
  refine zz_aload_n C 0 ddC_copyFrom_28 rfl rfl ?_
  refine zz_getr C ddC_copyFrom_29 fl_C_15 rfl h3 (of_decide_eq_true h8) ?_
  obtain ⟨h9, h⟩ := gdN h
  refine zz_alenI C ddC_copyFrom_32 h9 ?_
  obtain ⟨h10, h⟩ := gdN h
  refine zz_copy C ddC_copyFrom_33 wd_687 ⟨wd_362, wd_361, wd_14⟩ h10 (by omega) (Nat.le_of_ble_eq_true rfl) ?_
  refine zz_aload_n C 1 ddC_copyFrom_36 rfl rfl ?_
  obtain ⟨h11, h⟩ := gdN h
  refine zz_getr C ddC_copyFrom_37 fl_C_18 rfl h1 (of_decide_eq_true h11) ?_
  refine zz_iconst (v := 0) C ddC_copyFrom_40 (by decide) ?_
  refine zz_aload_n C 0 ddC_copyFrom_41 rfl rfl ?_
  obtain ⟨h12, h⟩ := gdN h
  refine zz_getr C ddC_copyFrom_42 fl_C_18 rfl h3 (of_decide_eq_true h12) ?_
  refine zz_iconst (v := 0) C ddC_copyFrom_45 (by decide) ?_
  refine zz_aload_n C 0 ddC_copyFrom_46 rfl rfl ?_
  refine zz_getr C ddC_copyFrom_47 fl_C_18 rfl h3 (of_decide_eq_true h12) ?_
  obtain ⟨h13, h⟩ := gdN h
  refine zz_alenI C ddC_copyFrom_50 h13 ?_
  obtain ⟨h14, h⟩ := gdN h
  refine zz_copy C ddC_copyFrom_51 wd_687 ⟨wd_362, wd_361, wd_14⟩ h14 (by omega) (Nat.le_of_ble_eq_true rfl) ?_
  refine zz_aload_n C 1 ddC_copyFrom_54 rfl rfl ?_
  obtain ⟨h15, h⟩ := gdN h
  refine zz_getr C ddC_copyFrom_55 fl_C_21 rfl h1 (of_decide_eq_true h15) ?_
  refine zz_iconst (v := 0) C ddC_copyFrom_58 (by decide) ?_
  refine zz_aload_n C 0 ddC_copyFrom_59 rfl rfl ?_
  obtain ⟨h16, h⟩ := gdN h
  refine zz_getr C ddC_copyFrom_60 fl_C_21 rfl h3 (of_decide_eq_true h16) ?_
  refine zz_iconst (v := 0) C ddC_copyFrom_63 (by decide) ?_
  refine zz_aload_n C 0 ddC_copyFrom_64 rfl rfl ?_
  refine zz_getr C ddC_copyFrom_65 fl_C_21 rfl h3 (of_decide_eq_true h16) ?_
  obtain ⟨h17, h⟩ := gdN h
  refine zz_alenI C ddC_copyFrom_68 h17 ?_
  obtain ⟨h18, h⟩ := gdN h
  refine zz_copy C ddC_copyFrom_69 wd_687 ⟨wd_362, wd_361, wd_14⟩ h18 (by omega) (Nat.le_of_ble_eq_true rfl) ?_
  obtain rfl := Option.some.inj h
  exact zz_vret C E ddC_copyFrom_72
theorem ddL_copyFrom_0 : decode cL_copyFrom 0 = .ok (.aload_n 1, 1) := by decide +kernel
theorem ddL_copyFrom_1 : decode cL_copyFrom 1 = .ok (.getfield 9, 3) := by decide +kernel
theorem ddL_copyFrom_4 : decode cL_copyFrom 4 = .ok (.iconst 0, 1) := by decide +kernel
theorem ddL_copyFrom_5 : decode cL_copyFrom 5 = .ok (.aload_n 0, 1) := by decide +kernel
theorem ddL_copyFrom_6 : decode cL_copyFrom 6 = .ok (.getfield 9, 3) := by decide +kernel
theorem ddL_copyFrom_9 : decode cL_copyFrom 9 = .ok (.iconst 0, 1) := by decide +kernel
theorem ddL_copyFrom_10 : decode cL_copyFrom 10 = .ok (.aload_n 0, 1) := by decide +kernel
theorem ddL_copyFrom_11 : decode cL_copyFrom 11 = .ok (.getfield 9, 3) := by decide +kernel
theorem ddL_copyFrom_14 : decode cL_copyFrom 14 = .ok (.arraylength, 1) := by decide +kernel
theorem ddL_copyFrom_15 : decode cL_copyFrom 15 = .ok (.invokestatic 19, 3) := by decide +kernel
theorem ddL_copyFrom_18 : decode cL_copyFrom 18 = .ok (.aload_n 0, 1) := by decide +kernel
theorem ddL_copyFrom_19 : decode cL_copyFrom 19 = .ok (.aload_n 1, 1) := by decide +kernel
theorem ddL_copyFrom_20 : decode cL_copyFrom 20 = .ok (.getfield 15, 3) := by decide +kernel
theorem ddL_copyFrom_23 : decode cL_copyFrom 23 = .ok (.putfield 15, 3) := by decide +kernel
theorem ddL_copyFrom_26 : decode cL_copyFrom 26 = .ok (.return_, 1) := by decide +kernel
set_option maxHeartbeats 2000000 in
theorem xL_copyFrom {G : GXM} {l : Launch} (hG : GokM G) (d : Nat) (hd : 1 ≤ d) {v0 : Nat} {v1 : Nat} {M : Mem} {q : Mem} (h : fL_copyFrom v0 v1 M = some q) : ExM G l d 0 0 yL_copyFrom cL_copyFrom 2 none [.ref v0, .ref v1] M none q := by
  refine ex_of hG (by decide +kernel) (Nat.le_of_ble_eq_true rfl) ?_
  intro X hl C E N hD hn
  show ZM G X 0 [(0, .ref v0), (1, .ref v1)] [] M 0 0
  unfold fL_copyFrom at h
  refine zz_aload_n C 1 ddL_copyFrom_0 rfl rfl ?_
  obtain ⟨h1, h⟩ := gdN h
  obtain ⟨h2, h⟩ := gdN h
  refine zz_getr C ddL_copyFrom_1 fl_L_9 rfl h1 (of_decide_eq_true h2) ?_
  refine zz_iconst (v := 0) C ddL_copyFrom_4 (by decide) ?_
  refine zz_aload_n C 0 ddL_copyFrom_5 rfl rfl ?_
  obtain ⟨h3, h⟩ := gdN h
  obtain ⟨h4, h⟩ := gdN h
  refine zz_getr C ddL_copyFrom_6 fl_L_9 rfl h3 (of_decide_eq_true h4) ?_
  refine zz_iconst (v := 0) C ddL_copyFrom_9 (by decide) ?_
  refine zz_aload_n C 0 ddL_copyFrom_10 rfl rfl ?_
  refine zz_getr C ddL_copyFrom_11 fl_L_9 rfl h3 (of_decide_eq_true h4) ?_
  obtain ⟨h5, h⟩ := gdN h
  refine zz_alenI C ddL_copyFrom_14 h5 ?_
  obtain ⟨h6, h⟩ := gdN h
  refine zz_copy C ddL_copyFrom_15 wd_692 ⟨wd_362, wd_361, wd_14⟩ h6 (by omega) (Nat.le_of_ble_eq_true rfl) ?_
  refine zz_aload_n C 0 ddL_copyFrom_18 rfl rfl ?_
  refine zz_aload_n C 1 ddL_copyFrom_19 rfl rfl ?_
  refine zz_geti C ddL_copyFrom_20 fl_L_15 rfl h1 ?_
  refine zz_puti C ddL_copyFrom_23 fl_L_15 rfl rfl rfl h3 ?_
  obtain rfl := Option.some.inj h
  exact zz_vret C E ddL_copyFrom_26
theorem ddH_copyFrom_0 : decode cH_copyFrom 0 = .ok (.aload_n 1, 1) := by decide +kernel
theorem ddH_copyFrom_1 : decode cH_copyFrom 1 = .ok (.getfield 9, 3) := by decide +kernel
theorem ddH_copyFrom_4 : decode cH_copyFrom 4 = .ok (.iconst 0, 1) := by decide +kernel
theorem ddH_copyFrom_5 : decode cH_copyFrom 5 = .ok (.aload_n 0, 1) := by decide +kernel
theorem ddH_copyFrom_6 : decode cH_copyFrom 6 = .ok (.getfield 9, 3) := by decide +kernel
theorem ddH_copyFrom_9 : decode cH_copyFrom 9 = .ok (.iconst 0, 1) := by decide +kernel
theorem ddH_copyFrom_10 : decode cH_copyFrom 10 = .ok (.bipush 16, 2) := by decide +kernel
theorem ddH_copyFrom_12 : decode cH_copyFrom 12 = .ok (.invokestatic 63, 3) := by decide +kernel
theorem ddH_copyFrom_15 : decode cH_copyFrom 15 = .ok (.aload_n 1, 1) := by decide +kernel
theorem ddH_copyFrom_16 : decode cH_copyFrom 16 = .ok (.getfield 15, 3) := by decide +kernel
theorem ddH_copyFrom_19 : decode cH_copyFrom 19 = .ok (.iconst 0, 1) := by decide +kernel
theorem ddH_copyFrom_20 : decode cH_copyFrom 20 = .ok (.aload_n 0, 1) := by decide +kernel
theorem ddH_copyFrom_21 : decode cH_copyFrom 21 = .ok (.getfield 15, 3) := by decide +kernel
theorem ddH_copyFrom_24 : decode cH_copyFrom 24 = .ok (.iconst 0, 1) := by decide +kernel
theorem ddH_copyFrom_25 : decode cH_copyFrom 25 = .ok (.bipush 16, 2) := by decide +kernel
theorem ddH_copyFrom_27 : decode cH_copyFrom 27 = .ok (.invokestatic 63, 3) := by decide +kernel
theorem ddH_copyFrom_30 : decode cH_copyFrom 30 = .ok (.aload_n 1, 1) := by decide +kernel
theorem ddH_copyFrom_31 : decode cH_copyFrom 31 = .ok (.getfield 18, 3) := by decide +kernel
theorem ddH_copyFrom_34 : decode cH_copyFrom 34 = .ok (.iconst 0, 1) := by decide +kernel
theorem ddH_copyFrom_35 : decode cH_copyFrom 35 = .ok (.aload_n 0, 1) := by decide +kernel
theorem ddH_copyFrom_36 : decode cH_copyFrom 36 = .ok (.getfield 18, 3) := by decide +kernel
theorem ddH_copyFrom_39 : decode cH_copyFrom 39 = .ok (.iconst 0, 1) := by decide +kernel
theorem ddH_copyFrom_40 : decode cH_copyFrom 40 = .ok (.bipush 16, 2) := by decide +kernel
theorem ddH_copyFrom_42 : decode cH_copyFrom 42 = .ok (.invokestatic 63, 3) := by decide +kernel
theorem ddH_copyFrom_45 : decode cH_copyFrom 45 = .ok (.aload_n 0, 1) := by decide +kernel
theorem ddH_copyFrom_46 : decode cH_copyFrom 46 = .ok (.getfield 26, 3) := by decide +kernel
theorem ddH_copyFrom_49 : decode cH_copyFrom 49 = .ok (.aload_n 1, 1) := by decide +kernel
theorem ddH_copyFrom_50 : decode cH_copyFrom 50 = .ok (.getfield 26, 3) := by decide +kernel
theorem ddH_copyFrom_53 : decode cH_copyFrom 53 = .ok (.invokevirtual 69, 3) := by decide +kernel
theorem ddH_copyFrom_56 : decode cH_copyFrom 56 = .ok (.aload_n 0, 1) := by decide +kernel
theorem ddH_copyFrom_57 : decode cH_copyFrom 57 = .ok (.getfield 30, 3) := by decide +kernel
theorem ddH_copyFrom_60 : decode cH_copyFrom 60 = .ok (.aload_n 1, 1) := by decide +kernel
theorem ddH_copyFrom_61 : decode cH_copyFrom 61 = .ok (.getfield 30, 3) := by decide +kernel
theorem ddH_copyFrom_64 : decode cH_copyFrom 64 = .ok (.invokevirtual 69, 3) := by decide +kernel
theorem ddH_copyFrom_67 : decode cH_copyFrom 67 = .ok (.aload_n 1, 1) := by decide +kernel
theorem ddH_copyFrom_68 : decode cH_copyFrom 68 = .ok (.getfield 33, 3) := by decide +kernel
theorem ddH_copyFrom_71 : decode cH_copyFrom 71 = .ok (.iconst 0, 1) := by decide +kernel
theorem ddH_copyFrom_72 : decode cH_copyFrom 72 = .ok (.aload_n 0, 1) := by decide +kernel
theorem ddH_copyFrom_73 : decode cH_copyFrom 73 = .ok (.getfield 33, 3) := by decide +kernel
theorem ddH_copyFrom_76 : decode cH_copyFrom 76 = .ok (.iconst 0, 1) := by decide +kernel
theorem ddH_copyFrom_77 : decode cH_copyFrom 77 = .ok (.iconst 4, 1) := by decide +kernel
theorem ddH_copyFrom_78 : decode cH_copyFrom 78 = .ok (.invokestatic 63, 3) := by decide +kernel
theorem ddH_copyFrom_81 : decode cH_copyFrom 81 = .ok (.aload_n 1, 1) := by decide +kernel
theorem ddH_copyFrom_82 : decode cH_copyFrom 82 = .ok (.getfield 36, 3) := by decide +kernel
theorem ddH_copyFrom_85 : decode cH_copyFrom 85 = .ok (.iconst 0, 1) := by decide +kernel
theorem ddH_copyFrom_86 : decode cH_copyFrom 86 = .ok (.aload_n 0, 1) := by decide +kernel
theorem ddH_copyFrom_87 : decode cH_copyFrom 87 = .ok (.getfield 36, 3) := by decide +kernel
theorem ddH_copyFrom_90 : decode cH_copyFrom 90 = .ok (.iconst 0, 1) := by decide +kernel
theorem ddH_copyFrom_91 : decode cH_copyFrom 91 = .ok (.iconst 4, 1) := by decide +kernel
theorem ddH_copyFrom_92 : decode cH_copyFrom 92 = .ok (.invokestatic 63, 3) := by decide +kernel
theorem ddH_copyFrom_95 : decode cH_copyFrom 95 = .ok (.aload_n 0, 1) := by decide +kernel
theorem ddH_copyFrom_96 : decode cH_copyFrom 96 = .ok (.getfield 42, 3) := by decide +kernel
theorem ddH_copyFrom_99 : decode cH_copyFrom 99 = .ok (.aload_n 1, 1) := by decide +kernel
theorem ddH_copyFrom_100 : decode cH_copyFrom 100 = .ok (.getfield 42, 3) := by decide +kernel
theorem ddH_copyFrom_103 : decode cH_copyFrom 103 = .ok (.invokevirtual 73, 3) := by decide +kernel
theorem ddH_copyFrom_106 : decode cH_copyFrom 106 = .ok (.return_, 1) := by decide +kernel
set_option maxHeartbeats 2000000 in
theorem xH_copyFrom {G : GXM} {l : Launch} (hG : GokM G) (d : Nat) (hd : 2 ≤ d) {v0 : Nat} {v1 : Nat} {M : Mem} {q : Mem} (h : fH_copyFrom v0 v1 M = some q) : ExM G l d 0 0 yH_copyFrom cH_copyFrom 2 none [.ref v0, .ref v1] M none q := by
  refine ex_of hG (by decide +kernel) (Nat.le_of_ble_eq_true rfl) ?_
  intro X hl C E N hD hn
  show ZM G X 0 [(0, .ref v0), (1, .ref v1)] [] M 0 0
  unfold fH_copyFrom at h
  refine zz_aload_n C 1 ddH_copyFrom_0 rfl rfl ?_
  obtain ⟨h1, h⟩ := gdN h
  obtain ⟨h2, h⟩ := gdN h
  refine zz_getr C ddH_copyFrom_1 fl_H_9 rfl h1 (of_decide_eq_true h2) ?_
  refine zz_iconst (v := 0) C ddH_copyFrom_4 (by decide) ?_
  refine zz_aload_n C 0 ddH_copyFrom_5 rfl rfl ?_
  obtain ⟨h3, h⟩ := gdN h
  obtain ⟨h4, h⟩ := gdN h
  refine zz_getr C ddH_copyFrom_6 fl_H_9 rfl h3 (of_decide_eq_true h4) ?_
  refine zz_iconst (v := 0) C ddH_copyFrom_9 (by decide) ?_
  refine zz_bipush (v := 16) C ddH_copyFrom_10 (by decide) ?_
  obtain ⟨h5, h⟩ := gdN h
  refine zz_copy C ddH_copyFrom_12 wd_682 ⟨wd_362, wd_361, wd_14⟩ h5 (by omega) (Nat.le_of_ble_eq_true rfl) ?_
  refine zz_aload_n C 1 ddH_copyFrom_15 rfl rfl ?_
  obtain ⟨h6, h⟩ := gdN h
  refine zz_getr C ddH_copyFrom_16 fl_H_15 rfl h1 (of_decide_eq_true h6) ?_
  refine zz_iconst (v := 0) C ddH_copyFrom_19 (by decide) ?_
  refine zz_aload_n C 0 ddH_copyFrom_20 rfl rfl ?_
  obtain ⟨h7, h⟩ := gdN h
  refine zz_getr C ddH_copyFrom_21 fl_H_15 rfl h3 (of_decide_eq_true h7) ?_
  refine zz_iconst (v := 0) C ddH_copyFrom_24 (by decide) ?_
  refine zz_bipush (v := 16) C ddH_copyFrom_25 (by decide) ?_
  obtain ⟨h8, h⟩ := gdN h
  refine zz_copy C ddH_copyFrom_27 wd_682 ⟨wd_362, wd_361, wd_14⟩ h8 (by omega) (Nat.le_of_ble_eq_true rfl) ?_
  refine zz_aload_n C 1 ddH_copyFrom_30 rfl rfl ?_
  obtain ⟨h9, h⟩ := gdN h
  refine zz_getr C ddH_copyFrom_31 fl_H_18 rfl h1 (of_decide_eq_true h9) ?_
  refine zz_iconst (v := 0) C ddH_copyFrom_34 (by decide) ?_
  refine zz_aload_n C 0 ddH_copyFrom_35 rfl rfl ?_
  obtain ⟨h10, h⟩ := gdN h
  refine zz_getr C ddH_copyFrom_36 fl_H_18 rfl h3 (of_decide_eq_true h10) ?_
  refine zz_iconst (v := 0) C ddH_copyFrom_39 (by decide) ?_
  refine zz_bipush (v := 16) C ddH_copyFrom_40 (by decide) ?_
  obtain ⟨h11, h⟩ := gdN h
  refine zz_copy C ddH_copyFrom_42 wd_682 ⟨wd_362, wd_361, wd_14⟩ h11 (by omega) (Nat.le_of_ble_eq_true rfl) ?_
  refine zz_aload_n C 0 ddH_copyFrom_45 rfl rfl ?_
  obtain ⟨h12, h⟩ := gdN h
  refine zz_getr C ddH_copyFrom_46 fl_H_26 rfl h3 (of_decide_eq_true h12) ?_
  refine zz_aload_n C 1 ddH_copyFrom_49 rfl rfl ?_
  obtain ⟨h13, h⟩ := gdN h
  refine zz_getr C ddH_copyFrom_50 fl_H_26 rfl h1 (of_decide_eq_true h13) ?_
  obtain ⟨h15, h⟩ := gdN h
  obtain ⟨q14, hq14, h⟩ := bindN h
  refine zz_callV0 (As := [.ref (grM M v1 4)]) C ddH_copyFrom_53 wd_683 my_C_copyFrom mv_C_copyFrom ⟨_, rfl, rfl⟩ (xC_copyFrom hG (d - 1) (by omega) hq14) (by omega) h15 rfl rfl (Nat.le_of_ble_eq_true rfl) ?_
  refine zz_aload_n C 0 ddH_copyFrom_56 rfl rfl ?_
  obtain ⟨h16, h⟩ := gdN h
  obtain ⟨h17, h⟩ := gdN h
  refine zz_getr C ddH_copyFrom_57 fl_H_30 rfl h16 (of_decide_eq_true h17) ?_
  refine zz_aload_n C 1 ddH_copyFrom_60 rfl rfl ?_
  obtain ⟨h18, h⟩ := gdN h
  obtain ⟨h19, h⟩ := gdN h
  refine zz_getr C ddH_copyFrom_61 fl_H_30 rfl h18 (of_decide_eq_true h19) ?_
  obtain ⟨h21, h⟩ := gdN h
  obtain ⟨q20, hq20, h⟩ := bindN h
  refine zz_callV0 (As := [.ref (grM q14 v1 5)]) C ddH_copyFrom_64 wd_683 my_C_copyFrom mv_C_copyFrom ⟨_, rfl, rfl⟩ (xC_copyFrom hG (d - 1) (by omega) hq20) (by omega) h21 rfl rfl (Nat.le_of_ble_eq_true rfl) ?_
  refine zz_aload_n C 1 ddH_copyFrom_67 rfl rfl ?_
  obtain ⟨h22, h⟩ := gdN h
  obtain ⟨h23, h⟩ := gdN h
  refine zz_getr C ddH_copyFrom_68 fl_H_33 rfl h22 (of_decide_eq_true h23) ?_
  refine zz_iconst (v := 0) C ddH_copyFrom_71 (by decide) ?_
  refine zz_aload_n C 0 ddH_copyFrom_72 rfl rfl ?_
  obtain ⟨h24, h⟩ := gdN h
  obtain ⟨h25, h⟩ := gdN h
  refine zz_getr C ddH_copyFrom_73 fl_H_33 rfl h24 (of_decide_eq_true h25) ?_
  refine zz_iconst (v := 0) C ddH_copyFrom_76 (by decide) ?_
  refine zz_iconst (v := 4) C ddH_copyFrom_77 (by decide) ?_
  obtain ⟨h26, h⟩ := gdN h
  refine zz_copy C ddH_copyFrom_78 wd_682 ⟨wd_362, wd_361, wd_14⟩ h26 (by omega) (Nat.le_of_ble_eq_true rfl) ?_
  refine zz_aload_n C 1 ddH_copyFrom_81 rfl rfl ?_
  obtain ⟨h27, h⟩ := gdN h
  refine zz_getr C ddH_copyFrom_82 fl_H_36 rfl h22 (of_decide_eq_true h27) ?_
  refine zz_iconst (v := 0) C ddH_copyFrom_85 (by decide) ?_
  refine zz_aload_n C 0 ddH_copyFrom_86 rfl rfl ?_
  obtain ⟨h28, h⟩ := gdN h
  refine zz_getr C ddH_copyFrom_87 fl_H_36 rfl h24 (of_decide_eq_true h28) ?_
  refine zz_iconst (v := 0) C ddH_copyFrom_90 (by decide) ?_
  refine zz_iconst (v := 4) C ddH_copyFrom_91 (by decide) ?_
  obtain ⟨h29, h⟩ := gdN h
  refine zz_copy C ddH_copyFrom_92 wd_682 ⟨wd_362, wd_361, wd_14⟩ h29 (by omega) (Nat.le_of_ble_eq_true rfl) ?_
  refine zz_aload_n C 0 ddH_copyFrom_95 rfl rfl ?_
  obtain ⟨h30, h⟩ := gdN h
  refine zz_getr C ddH_copyFrom_96 fl_H_42 rfl h24 (of_decide_eq_true h30) ?_
  refine zz_aload_n C 1 ddH_copyFrom_99 rfl rfl ?_
  obtain ⟨h31, h⟩ := gdN h
  refine zz_getr C ddH_copyFrom_100 fl_H_42 rfl h22 (of_decide_eq_true h31) ?_
  obtain ⟨h33, h⟩ := gdN h
  obtain ⟨q32, hq32, h⟩ := bindN h
  refine zz_callV0 (As := [.ref (grM q20 v1 8)]) C ddH_copyFrom_103 wd_688 my_L_copyFrom mv_L_copyFrom ⟨_, rfl, rfl⟩ (xL_copyFrom hG (d - 1) (by omega) hq32) (by omega) h33 rfl rfl (Nat.le_of_ble_eq_true rfl) ?_
  obtain rfl := Option.some.inj h
  exact zz_vret C E ddH_copyFrom_106
theorem ddP_keep_0 : decode cP_keep 0 = .ok (.aload_n 0, 1) := by decide +kernel
theorem ddP_keep_1 : decode cP_keep 1 = .ok (.getfield 24, 3) := by decide +kernel
theorem ddP_keep_4 : decode cP_keep 4 = .ok (.bipush 40, 2) := by decide +kernel
theorem ddP_keep_6 : decode cP_keep 6 = .ok (.if_icmp .ne 26, 3) := by decide +kernel
theorem ddP_keep_9 : decode cP_keep 9 = .ok (.aload_n 0, 1) := by decide +kernel
theorem ddP_keep_10 : decode cP_keep 10 = .ok (.aload_n 0, 1) := by decide +kernel
theorem ddP_keep_11 : decode cP_keep 11 = .ok (.getfield 20, 3) := by decide +kernel
theorem ddP_keep_14 : decode cP_keep 14 = .ok (.iconst 1, 1) := by decide +kernel
theorem ddP_keep_15 : decode cP_keep 15 = .ok (.iadd, 1) := by decide +kernel
theorem ddP_keep_16 : decode cP_keep 16 = .ok (.bipush 40, 2) := by decide +kernel
theorem ddP_keep_18 : decode cP_keep 18 = .ok (.irem, 1) := by decide +kernel
theorem ddP_keep_19 : decode cP_keep 19 = .ok (.putfield 20, 3) := by decide +kernel
theorem ddP_keep_22 : decode cP_keep 22 = .ok (.aload_n 0, 1) := by decide +kernel
theorem ddP_keep_23 : decode cP_keep 23 = .ok (.dup, 1) := by decide +kernel
theorem ddP_keep_24 : decode cP_keep 24 = .ok (.getfield 24, 3) := by decide +kernel
theorem ddP_keep_27 : decode cP_keep 27 = .ok (.iconst 1, 1) := by decide +kernel
theorem ddP_keep_28 : decode cP_keep 28 = .ok (.isub, 1) := by decide +kernel
theorem ddP_keep_29 : decode cP_keep 29 = .ok (.putfield 24, 3) := by decide +kernel
theorem ddP_keep_32 : decode cP_keep 32 = .ok (.aload_n 0, 1) := by decide +kernel
theorem ddP_keep_33 : decode cP_keep 33 = .ok (.getfield 11, 3) := by decide +kernel
theorem ddP_keep_36 : decode cP_keep 36 = .ok (.aload_n 0, 1) := by decide +kernel
theorem ddP_keep_37 : decode cP_keep 37 = .ok (.getfield 20, 3) := by decide +kernel
theorem ddP_keep_40 : decode cP_keep 40 = .ok (.aload_n 0, 1) := by decide +kernel
theorem ddP_keep_41 : decode cP_keep 41 = .ok (.getfield 24, 3) := by decide +kernel
theorem ddP_keep_44 : decode cP_keep 44 = .ok (.iadd, 1) := by decide +kernel
theorem ddP_keep_45 : decode cP_keep 45 = .ok (.bipush 40, 2) := by decide +kernel
theorem ddP_keep_47 : decode cP_keep 47 = .ok (.irem, 1) := by decide +kernel
theorem ddP_keep_48 : decode cP_keep 48 = .ok (.aaload, 1) := by decide +kernel
theorem ddP_keep_49 : decode cP_keep 49 = .ok (.aload_n 1, 1) := by decide +kernel
theorem ddP_keep_50 : decode cP_keep 50 = .ok (.invokevirtual 27, 3) := by decide +kernel
theorem ddP_keep_53 : decode cP_keep 53 = .ok (.aload_n 0, 1) := by decide +kernel
theorem ddP_keep_54 : decode cP_keep 54 = .ok (.dup, 1) := by decide +kernel
theorem ddP_keep_55 : decode cP_keep 55 = .ok (.getfield 24, 3) := by decide +kernel
theorem ddP_keep_58 : decode cP_keep 58 = .ok (.iconst 1, 1) := by decide +kernel
theorem ddP_keep_59 : decode cP_keep 59 = .ok (.iadd, 1) := by decide +kernel
theorem ddP_keep_60 : decode cP_keep 60 = .ok (.putfield 24, 3) := by decide +kernel
theorem ddP_keep_63 : decode cP_keep 63 = .ok (.return_, 1) := by decide +kernel
set_option maxHeartbeats 2000000 in
theorem zBP_keep_32 {G : GXM} {X : CxM} (hG : GokM G) (C : CoM G X cP_keep "HomeFreed$Past") (N : mLM X = 2) {d : Nat} (hD : dpM X = d) (hd : 3 ≤ d)  {q : Mem} (E : EnM G X none none q 0 0) {v0 : Nat} {v1 : Nat} {M : Mem} (h : BP_keep_32 v0 v1 M = some q) : ZM G X 32 [(0, .ref v0), (1, .ref v1)] [] M 0 0 := by
  unfold BP_keep_32 at h
  refine zz_aload_n C 0 ddP_keep_32 rfl rfl ?_
  obtain ⟨h1, h⟩ := gdN h
  obtain ⟨h2, h⟩ := gdN h
  refine zz_getr C ddP_keep_33 fl_P_11 rfl h1 (of_decide_eq_true h2) ?_
  refine zz_aload_n C 0 ddP_keep_36 rfl rfl ?_
  refine zz_geti C ddP_keep_37 fl_P_20 rfl h1 ?_
  refine zz_aload_n C 0 ddP_keep_40 rfl rfl ?_
  refine zz_geti C ddP_keep_41 fl_P_24 rfl h1 ?_
  refine zz_iadd C ddP_keep_44 ?_
  refine zz_bipush (v := 40) C ddP_keep_45 (by decide) ?_
  refine zz_irem C ddP_keep_47 (by decide) ?_
  obtain ⟨h3, h⟩ := gdN h
  obtain ⟨h4, h⟩ := gdN h
  refine zz_aaload (t := 103) C ddP_keep_48 (by decide) (fun _ => rfl) h3 (of_decide_eq_true h4) ?_
  refine zz_aload_n C 1 ddP_keep_49 rfl rfl ?_
  obtain ⟨h6, h⟩ := gdN h
  obtain ⟨q5, hq5, h⟩ := bindN h
  refine zz_callV0 (As := [.ref v1]) C ddP_keep_50 wd_678 my_H_copyFrom mv_H_copyFrom ⟨_, rfl, rfl⟩ (xH_copyFrom hG (d - 1) (by omega) hq5) (by omega) h6 rfl rfl (Nat.le_of_ble_eq_true rfl) ?_
  refine zz_aload_n C 0 ddP_keep_53 rfl rfl ?_
  refine zz_dup C ddP_keep_54 rfl ?_
  obtain ⟨h7, h⟩ := gdN h
  refine zz_geti C ddP_keep_55 fl_P_24 rfl h7 ?_
  refine zz_iconst (v := 1) C ddP_keep_58 (by decide) ?_
  refine zz_iadd C ddP_keep_59 ?_
  refine zz_puti C ddP_keep_60 fl_P_24 rfl rfl rfl h7 ?_
  obtain rfl := Option.some.inj h
  exact zz_vret C E ddP_keep_63
set_option maxHeartbeats 2000000 in
theorem xP_keep {G : GXM} {l : Launch} (hG : GokM G) (d : Nat) (hd : 3 ≤ d) {v0 : Nat} {v1 : Nat} {M : Mem} {q : Mem} (h : fP_keep v0 v1 M = some q) : ExM G l d 0 0 yP_keep cP_keep 2 none [.ref v0, .ref v1] M none q := by
  refine ex_of hG (by decide +kernel) (Nat.le_of_ble_eq_true rfl) ?_
  intro X hl C E N hD hn
  show ZM G X 0 [(0, .ref v0), (1, .ref v1)] [] M 0 0
  unfold fP_keep at h
  refine zz_aload_n C 0 ddP_keep_0 rfl rfl ?_
  obtain ⟨h1, h⟩ := gdN h
  refine zz_geti C ddP_keep_1 fl_P_24 rfl h1 ?_
  refine zz_bipush (v := 40) C ddP_keep_4 (by decide) ?_
  refine zz_icmp_ne (tgt := 32) C ddP_keep_6 rfl (fun hc => ?_) (fun hc => ?_)
  · replace h := iteF h hc
    exact zBP_keep_32 hG C N hD hd E h
  · replace h := iteT h hc
    refine zz_aload_n C 0 ddP_keep_9 rfl rfl ?_
    refine zz_aload_n C 0 ddP_keep_10 rfl rfl ?_
    refine zz_geti C ddP_keep_11 fl_P_20 rfl h1 ?_
    refine zz_iconst (v := 1) C ddP_keep_14 (by decide) ?_
    refine zz_iadd C ddP_keep_15 ?_
    refine zz_bipush (v := 40) C ddP_keep_16 (by decide) ?_
    refine zz_irem C ddP_keep_18 (by decide) ?_
    refine zz_puti C ddP_keep_19 fl_P_20 rfl rfl rfl h1 ?_
    refine zz_aload_n C 0 ddP_keep_22 rfl rfl ?_
    refine zz_dup C ddP_keep_23 rfl ?_
    refine zz_geti C ddP_keep_24 fl_P_24 rfl h1 ?_
    refine zz_iconst (v := 1) C ddP_keep_27 (by decide) ?_
    refine zz_isub C ddP_keep_28 ?_
    refine zz_puti C ddP_keep_29 fl_P_24 rfl rfl rfl h1 ?_
    exact zBP_keep_32 hG C N hD hd E h
theorem ddH_lengthOf_0 : decode cH_lengthOf 0 = .ok (.aload_n 0, 1) := by decide +kernel
theorem ddH_lengthOf_1 : decode cH_lengthOf 1 = .ok (.getfield 30, 3) := by decide +kernel
theorem ddH_lengthOf_4 : decode cH_lengthOf 4 = .ok (.getfield 95, 3) := by decide +kernel
theorem ddH_lengthOf_7 : decode cH_lengthOf 7 = .ok (.iload_n 1, 1) := by decide +kernel
theorem ddH_lengthOf_8 : decode cH_lengthOf 8 = .ok (.iconst 3, 1) := by decide +kernel
theorem ddH_lengthOf_9 : decode cH_lengthOf 9 = .ok (.imul, 1) := by decide +kernel
theorem ddH_lengthOf_10 : decode cH_lengthOf 10 = .ok (.iload_n 2, 1) := by decide +kernel
theorem ddH_lengthOf_11 : decode cH_lengthOf 11 = .ok (.iadd, 1) := by decide +kernel
theorem ddH_lengthOf_12 : decode cH_lengthOf 12 = .ok (.iaload, 1) := by decide +kernel
theorem ddH_lengthOf_13 : decode cH_lengthOf 13 = .ok (.ireturn, 1) := by decide +kernel
set_option maxHeartbeats 2000000 in
theorem xH_lengthOf {G : GXM} {l : Launch} (hG : GokM G) (d : Nat) (hd : 0 ≤ d) {v0 : Nat} {v1 : Int32} {v2 : Int32} {M : Mem} {q : Int32 × Mem} (h : fH_lengthOf v0 v1 v2 M = some q) : ExM G l d 0 0 yH_lengthOf cH_lengthOf 3 (some .int) [.ref v0, .int v1, .int v2] M (some (.int q.1)) q.2 := by
  refine ex_of hG (by decide +kernel) (Nat.le_of_ble_eq_true rfl) ?_
  intro X hl C E N hD hn
  show ZM G X 0 [(0, .ref v0), (1, .int v1), (2, .int v2)] [] M 0 0
  unfold fH_lengthOf at h
  refine zz_aload_n C 0 ddH_lengthOf_0 rfl rfl ?_
  obtain ⟨h1, h⟩ := gdN h
  obtain ⟨h2, h⟩ := gdN h
  refine zz_getr C ddH_lengthOf_1 fl_H_30 rfl h1 (of_decide_eq_true h2) ?_
  obtain ⟨h3, h⟩ := gdN h
  obtain ⟨h4, h⟩ := gdN h
  refine zz_getr C ddH_lengthOf_4 fl_H_95 rfl h3 (of_decide_eq_true h4) ?_
  refine zz_iload_n C 1 ddH_lengthOf_7 rfl rfl ?_
  refine zz_iconst (v := 3) C ddH_lengthOf_8 (by decide) ?_
  refine zz_imul C ddH_lengthOf_9 ?_
  refine zz_iload_n C 2 ddH_lengthOf_10 rfl rfl ?_
  refine zz_iadd C ddH_lengthOf_11 ?_
  obtain ⟨h5, h⟩ := gdN h
  refine zz_iaload C ddH_lengthOf_12 h5 ?_
  obtain rfl := Option.some.inj h
  exact zz_iret C E ddH_lengthOf_13
theorem ddH_howFrom_0 : decode cH_howFrom 0 = .ok (.aload_n 0, 1) := by decide +kernel
theorem ddH_howFrom_1 : decode cH_howFrom 1 = .ok (.iload_n 2, 1) := by decide +kernel
theorem ddH_howFrom_2 : decode cH_howFrom 2 = .ok (.invokevirtual 141, 3) := by decide +kernel
theorem ddH_howFrom_5 : decode cH_howFrom 5 = .ok (.ifCond .ne 5, 3) := by decide +kernel
theorem ddH_howFrom_8 : decode cH_howFrom 8 = .ok (.iconst (-1), 1) := by decide +kernel
theorem ddH_howFrom_9 : decode cH_howFrom 9 = .ok (.ireturn, 1) := by decide +kernel
theorem ddH_howFrom_10 : decode cH_howFrom 10 = .ok (.aload_n 0, 1) := by decide +kernel
theorem ddH_howFrom_11 : decode cH_howFrom 11 = .ok (.getfield 9, 3) := by decide +kernel
theorem ddH_howFrom_14 : decode cH_howFrom 14 = .ok (.iload_n 2, 1) := by decide +kernel
theorem ddH_howFrom_15 : decode cH_howFrom 15 = .ok (.iaload, 1) := by decide +kernel
theorem ddH_howFrom_16 : decode cH_howFrom 16 = .ok (.iconst (-1), 1) := by decide +kernel
theorem ddH_howFrom_17 : decode cH_howFrom 17 = .ok (.if_icmp .ne 5, 3) := by decide +kernel
theorem ddH_howFrom_20 : decode cH_howFrom 20 = .ok (.iconst 5, 1) := by decide +kernel
theorem ddH_howFrom_21 : decode cH_howFrom 21 = .ok (.ireturn, 1) := by decide +kernel
theorem ddH_howFrom_22 : decode cH_howFrom 22 = .ok (.aload_n 0, 1) := by decide +kernel
theorem ddH_howFrom_23 : decode cH_howFrom 23 = .ok (.getfield 15, 3) := by decide +kernel
theorem ddH_howFrom_26 : decode cH_howFrom 26 = .ok (.iload_n 2, 1) := by decide +kernel
theorem ddH_howFrom_27 : decode cH_howFrom 27 = .ok (.iaload, 1) := by decide +kernel
theorem ddH_howFrom_28 : decode cH_howFrom 28 = .ok (.iload_n 1, 1) := by decide +kernel
theorem ddH_howFrom_29 : decode cH_howFrom 29 = .ok (.if_icmp .eq 5, 3) := by decide +kernel
theorem ddH_howFrom_32 : decode cH_howFrom 32 = .ok (.iconst 4, 1) := by decide +kernel
theorem ddH_howFrom_33 : decode cH_howFrom 33 = .ok (.ireturn, 1) := by decide +kernel
theorem ddH_howFrom_34 : decode cH_howFrom 34 = .ok (.aload_n 0, 1) := by decide +kernel
theorem ddH_howFrom_35 : decode cH_howFrom 35 = .ok (.getfield 26, 3) := by decide +kernel
theorem ddH_howFrom_38 : decode cH_howFrom 38 = .ok (.getfield 132, 3) := by decide +kernel
theorem ddH_howFrom_41 : decode cH_howFrom 41 = .ok (.aload_n 0, 1) := by decide +kernel
theorem ddH_howFrom_42 : decode cH_howFrom 42 = .ok (.iload_n 1, 1) := by decide +kernel
theorem ddH_howFrom_43 : decode cH_howFrom 43 = .ok (.aload_n 0, 1) := by decide +kernel
theorem ddH_howFrom_44 : decode cH_howFrom 44 = .ok (.getfield 9, 3) := by decide +kernel
theorem ddH_howFrom_47 : decode cH_howFrom 47 = .ok (.iload_n 2, 1) := by decide +kernel
theorem ddH_howFrom_48 : decode cH_howFrom 48 = .ok (.iaload, 1) := by decide +kernel
theorem ddH_howFrom_49 : decode cH_howFrom 49 = .ok (.invokevirtual 138, 3) := by decide +kernel
theorem ddH_howFrom_52 : decode cH_howFrom 52 = .ok (.iaload, 1) := by decide +kernel
theorem ddH_howFrom_53 : decode cH_howFrom 53 = .ok (.iload_n 2, 1) := by decide +kernel
theorem ddH_howFrom_54 : decode cH_howFrom 54 = .ok (.if_icmp .eq 5, 3) := by decide +kernel
theorem ddH_howFrom_57 : decode cH_howFrom 57 = .ok (.iconst 3, 1) := by decide +kernel
theorem ddH_howFrom_58 : decode cH_howFrom 58 = .ok (.ireturn, 1) := by decide +kernel
theorem ddH_howFrom_59 : decode cH_howFrom 59 = .ok (.aload_n 0, 1) := by decide +kernel
theorem ddH_howFrom_60 : decode cH_howFrom 60 = .ok (.iload_n 2, 1) := by decide +kernel
theorem ddH_howFrom_61 : decode cH_howFrom 61 = .ok (.iconst 0, 1) := by decide +kernel
theorem ddH_howFrom_62 : decode cH_howFrom 62 = .ok (.invokevirtual 120, 3) := by decide +kernel
theorem ddH_howFrom_65 : decode cH_howFrom 65 = .ok (.ifCond .le 5, 3) := by decide +kernel
theorem ddH_howFrom_68 : decode cH_howFrom 68 = .ok (.iconst 0, 1) := by decide +kernel
theorem ddH_howFrom_69 : decode cH_howFrom 69 = .ok (.ireturn, 1) := by decide +kernel
theorem ddH_howFrom_70 : decode cH_howFrom 70 = .ok (.aload_n 0, 1) := by decide +kernel
theorem ddH_howFrom_71 : decode cH_howFrom 71 = .ok (.iload_n 2, 1) := by decide +kernel
theorem ddH_howFrom_72 : decode cH_howFrom 72 = .ok (.iconst 1, 1) := by decide +kernel
theorem ddH_howFrom_73 : decode cH_howFrom 73 = .ok (.invokevirtual 120, 3) := by decide +kernel
theorem ddH_howFrom_76 : decode cH_howFrom 76 = .ok (.ifCond .le 7, 3) := by decide +kernel
theorem ddH_howFrom_79 : decode cH_howFrom 79 = .ok (.iconst 1, 1) := by decide +kernel
theorem ddH_howFrom_80 : decode cH_howFrom 80 = .ok (.goto 4, 3) := by decide +kernel
theorem ddH_howFrom_83 : decode cH_howFrom 83 = .ok (.iconst 2, 1) := by decide +kernel
theorem ddH_howFrom_84 : decode cH_howFrom 84 = .ok (.ireturn, 1) := by decide +kernel
set_option maxHeartbeats 2000000 in
theorem zBH_howFrom_84 {G : GXM} {X : CxM} (hG : GokM G) (C : CoM G X cH_howFrom "HomeFreed$Heap") (N : mLM X = 3) {d : Nat} (hD : dpM X = d) (hd : 1 ≤ d)  {q : Int32 × Mem} (E : EnM G X (some .int) (some (.int q.1)) q.2 0 0) {w0 : Int32} {M : Mem} (h : BH_howFrom_84 w0 M = some q) : ZM G X 84 [] [.int w0] M 0 0 := by
  unfold BH_howFrom_84 at h
  obtain rfl := Option.some.inj h
  exact zz_iret C E ddH_howFrom_84
set_option maxHeartbeats 2000000 in
theorem xH_howFrom {G : GXM} {l : Launch} (hG : GokM G) (d : Nat) (hd : 1 ≤ d) {v0 : Nat} {v1 : Int32} {v2 : Int32} {M : Mem} {q : Int32 × Mem} (h : fH_howFrom v0 v1 v2 M = some q) : ExM G l d 0 0 yH_howFrom cH_howFrom 3 (some .int) [.ref v0, .int v1, .int v2] M (some (.int q.1)) q.2 := by
  refine ex_of hG (by decide +kernel) (Nat.le_of_ble_eq_true rfl) ?_
  intro X hl C E N hD hn
  show ZM G X 0 [(0, .ref v0), (1, .int v1), (2, .int v2)] [] M 0 0
  unfold fH_howFrom at h
  refine zz_aload_n C 0 ddH_howFrom_0 rfl rfl ?_
  refine zz_iload_n C 2 ddH_howFrom_1 rfl rfl ?_
  obtain ⟨h2, h⟩ := gdN h
  obtain ⟨q1, hq1, h⟩ := bindN h
  refine zz_callV0 (As := [.int v2]) C ddH_howFrom_2 wd_704 my_H_isPage mv_H_isPage ⟨_, rfl, rfl⟩ (xH_isPage hG (d - 1) (by omega) hq1) (by omega) h2 rfl rfl (Nat.le_of_ble_eq_true rfl) ?_
  refine zz_if_ne (tgt := 10) C ddH_howFrom_5 rfl (fun hc => ?_) (fun hc => ?_)
  · replace h := iteF h hc
    refine zz_aload_n C 0 ddH_howFrom_10 rfl rfl ?_
    obtain ⟨h3, h⟩ := gdN h
    obtain ⟨h4, h⟩ := gdN h
    refine zz_getr C ddH_howFrom_11 fl_H_9 rfl h3 (of_decide_eq_true h4) ?_
    refine zz_iload_n C 2 ddH_howFrom_14 rfl rfl ?_
    obtain ⟨h5, h⟩ := gdN h
    refine zz_iaload C ddH_howFrom_15 h5 ?_
    refine zz_iconst (v := (-1)) C ddH_howFrom_16 (by decide) ?_
    refine zz_icmp_ne (tgt := 22) C ddH_howFrom_17 rfl (fun hc => ?_) (fun hc => ?_)
    · replace h := iteF h hc
      refine zz_aload_n C 0 ddH_howFrom_22 rfl rfl ?_
      obtain ⟨h6, h⟩ := gdN h
      refine zz_getr C ddH_howFrom_23 fl_H_15 rfl h3 (of_decide_eq_true h6) ?_
      refine zz_iload_n C 2 ddH_howFrom_26 rfl rfl ?_
      obtain ⟨h7, h⟩ := gdN h
      refine zz_iaload C ddH_howFrom_27 h7 ?_
      refine zz_iload_n C 1 ddH_howFrom_28 rfl rfl ?_
      refine zz_icmp_eq (tgt := 34) C ddH_howFrom_29 rfl (fun hc => ?_) (fun hc => ?_)
      · replace h := iteT h hc
        refine zz_aload_n C 0 ddH_howFrom_34 rfl rfl ?_
        obtain ⟨h8, h⟩ := gdN h
        refine zz_getr C ddH_howFrom_35 fl_H_26 rfl h3 (of_decide_eq_true h8) ?_
        obtain ⟨h9, h⟩ := gdN h
        obtain ⟨h10, h⟩ := gdN h
        refine zz_getr C ddH_howFrom_38 fl_H_132 rfl h9 (of_decide_eq_true h10) ?_
        refine zz_aload_n C 0 ddH_howFrom_41 rfl rfl ?_
        refine zz_iload_n C 1 ddH_howFrom_42 rfl rfl ?_
        refine zz_aload_n C 0 ddH_howFrom_43 rfl rfl ?_
        refine zz_getr C ddH_howFrom_44 fl_H_9 rfl h3 (of_decide_eq_true h4) ?_
        refine zz_iload_n C 2 ddH_howFrom_47 rfl rfl ?_
        refine zz_iaload C ddH_howFrom_48 h5 ?_
        obtain ⟨q11, hq11, h⟩ := bindN h
        refine zz_callV0 (As := [.int v1, .int (giM q1.2 (grM q1.2 v0 1) (Int32.toNatClampNeg v2))]) C ddH_howFrom_49 wd_669 my_H_queueOf mv_H_queueOf ⟨_, rfl, rfl⟩ (xH_queueOf hG (d - 1) (by omega) hq11) (by omega) h3 rfl rfl (Nat.le_of_ble_eq_true rfl) ?_
        obtain ⟨h12, h⟩ := gdN h
        refine zz_iaload C ddH_howFrom_52 h12 ?_
        refine zz_iload_n C 2 ddH_howFrom_53 rfl rfl ?_
        refine zz_icmp_eq (tgt := 59) C ddH_howFrom_54 rfl (fun hc => ?_) (fun hc => ?_)
        · replace h := iteT h hc
          refine zz_aload_n C 0 ddH_howFrom_59 rfl rfl ?_
          refine zz_iload_n C 2 ddH_howFrom_60 rfl rfl ?_
          refine zz_iconst (v := 0) C ddH_howFrom_61 (by decide) ?_
          obtain ⟨h14, h⟩ := gdN h
          obtain ⟨q13, hq13, h⟩ := bindN h
          refine zz_callV0 (As := [.int v2, .int 0]) C ddH_howFrom_62 wd_705 my_H_lengthOf mv_H_lengthOf ⟨_, rfl, rfl⟩ (xH_lengthOf hG (d - 1) (by omega) hq13) (by omega) h14 rfl rfl (Nat.le_of_ble_eq_true rfl) ?_
          refine zz_if_le (tgt := 70) C ddH_howFrom_65 rfl (fun hc => ?_) (fun hc => ?_)
          · replace h := iteT h hc
            refine zz_aload_n C 0 ddH_howFrom_70 rfl rfl ?_
            refine zz_iload_n C 2 ddH_howFrom_71 rfl rfl ?_
            refine zz_iconst (v := 1) C ddH_howFrom_72 (by decide) ?_
            obtain ⟨h16, h⟩ := gdN h
            obtain ⟨q15, hq15, h⟩ := bindN h
            refine zz_callV0 (As := [.int v2, .int 1]) C ddH_howFrom_73 wd_705 my_H_lengthOf mv_H_lengthOf ⟨_, rfl, rfl⟩ (xH_lengthOf hG (d - 1) (by omega) hq15) (by omega) h16 rfl rfl (Nat.le_of_ble_eq_true rfl) ?_
            refine zz_if_le (tgt := 83) C ddH_howFrom_76 rfl (fun hc => ?_) (fun hc => ?_)
            · replace h := iteT h hc
              refine zz_iconst (v := 2) C ddH_howFrom_83 (by decide) ?_
              refine zz_loc (L1 := []) [] rfl ?_
              exact zBH_howFrom_84 hG C N hD hd E h
            · replace h := iteF h hc
              refine zz_iconst (v := 1) C ddH_howFrom_79 (by decide) ?_
              refine zz_goto (tgt := 84) C ddH_howFrom_80 rfl ?_
              refine zz_loc (L1 := []) [] rfl ?_
              exact zBH_howFrom_84 hG C N hD hd E h
          · replace h := iteF h hc
            refine zz_iconst (v := 0) C ddH_howFrom_68 (by decide) ?_
            obtain rfl := Option.some.inj h
            exact zz_iret C E ddH_howFrom_69
        · replace h := iteF h hc
          refine zz_iconst (v := 3) C ddH_howFrom_57 (by decide) ?_
          obtain rfl := Option.some.inj h
          exact zz_iret C E ddH_howFrom_58
      · replace h := iteF h hc
        refine zz_iconst (v := 4) C ddH_howFrom_32 (by decide) ?_
        obtain rfl := Option.some.inj h
        exact zz_iret C E ddH_howFrom_33
    · replace h := iteT h hc
      refine zz_iconst (v := 5) C ddH_howFrom_20 (by decide) ?_
      obtain rfl := Option.some.inj h
      exact zz_iret C E ddH_howFrom_21
  · replace h := iteT h hc
    refine zz_iconst (v := (-1)) C ddH_howFrom_8 (by decide) ?_
    obtain rfl := Option.some.inj h
    exact zz_iret C E ddH_howFrom_9
theorem ddC_pop_0 : decode cC_pop 0 = .ok (.iload_n 1, 1) := by decide +kernel
theorem ddC_pop_1 : decode cC_pop 1 = .ok (.ifCond .lt 22, 3) := by decide +kernel
theorem ddC_pop_4 : decode cC_pop 4 = .ok (.iload_n 1, 1) := by decide +kernel
theorem ddC_pop_5 : decode cC_pop 5 = .ok (.aload_n 0, 1) := by decide +kernel
theorem ddC_pop_6 : decode cC_pop 6 = .ok (.getfield 9, 3) := by decide +kernel
theorem ddC_pop_9 : decode cC_pop 9 = .ok (.arraylength, 1) := by decide +kernel
theorem ddC_pop_10 : decode cC_pop 10 = .ok (.if_icmp .ge 13, 3) := by decide +kernel
theorem ddC_pop_13 : decode cC_pop 13 = .ok (.aload_n 0, 1) := by decide +kernel
theorem ddC_pop_14 : decode cC_pop 14 = .ok (.getfield 9, 3) := by decide +kernel
theorem ddC_pop_17 : decode cC_pop 17 = .ok (.iload_n 1, 1) := by decide +kernel
theorem ddC_pop_18 : decode cC_pop 18 = .ok (.iaload, 1) := by decide +kernel
theorem ddC_pop_19 : decode cC_pop 19 = .ok (.iconst (-1), 1) := by decide +kernel
theorem ddC_pop_20 : decode cC_pop 20 = .ok (.if_icmp .ne 5, 3) := by decide +kernel
theorem ddC_pop_23 : decode cC_pop 23 = .ok (.iconst (-1), 1) := by decide +kernel
theorem ddC_pop_24 : decode cC_pop 24 = .ok (.ireturn, 1) := by decide +kernel
theorem ddC_pop_25 : decode cC_pop 25 = .ok (.aload_n 0, 1) := by decide +kernel
theorem ddC_pop_26 : decode cC_pop 26 = .ok (.getfield 9, 3) := by decide +kernel
theorem ddC_pop_29 : decode cC_pop 29 = .ok (.iload_n 1, 1) := by decide +kernel
theorem ddC_pop_30 : decode cC_pop 30 = .ok (.iaload, 1) := by decide +kernel
theorem ddC_pop_31 : decode cC_pop 31 = .ok (.istore_n 2, 1) := by decide +kernel
theorem ddC_pop_32 : decode cC_pop 32 = .ok (.aload_n 0, 1) := by decide +kernel
theorem ddC_pop_33 : decode cC_pop 33 = .ok (.getfield 9, 3) := by decide +kernel
theorem ddC_pop_36 : decode cC_pop 36 = .ok (.iload_n 1, 1) := by decide +kernel
theorem ddC_pop_37 : decode cC_pop 37 = .ok (.aload_n 0, 1) := by decide +kernel
theorem ddC_pop_38 : decode cC_pop 38 = .ok (.getfield 18, 3) := by decide +kernel
theorem ddC_pop_41 : decode cC_pop 41 = .ok (.iload_n 2, 1) := by decide +kernel
theorem ddC_pop_42 : decode cC_pop 42 = .ok (.iaload, 1) := by decide +kernel
theorem ddC_pop_43 : decode cC_pop 43 = .ok (.iastore, 1) := by decide +kernel
theorem ddC_pop_44 : decode cC_pop 44 = .ok (.aload_n 0, 1) := by decide +kernel
theorem ddC_pop_45 : decode cC_pop 45 = .ok (.getfield 18, 3) := by decide +kernel
theorem ddC_pop_48 : decode cC_pop 48 = .ok (.iload_n 2, 1) := by decide +kernel
theorem ddC_pop_49 : decode cC_pop 49 = .ok (.iconst (-1), 1) := by decide +kernel
theorem ddC_pop_50 : decode cC_pop 50 = .ok (.iastore, 1) := by decide +kernel
theorem ddC_pop_51 : decode cC_pop 51 = .ok (.aload_n 0, 1) := by decide +kernel
theorem ddC_pop_52 : decode cC_pop 52 = .ok (.getfield 21, 3) := by decide +kernel
theorem ddC_pop_55 : decode cC_pop 55 = .ok (.iload_n 2, 1) := by decide +kernel
theorem ddC_pop_56 : decode cC_pop 56 = .ok (.iconst (-1), 1) := by decide +kernel
theorem ddC_pop_57 : decode cC_pop 57 = .ok (.iastore, 1) := by decide +kernel
theorem ddC_pop_58 : decode cC_pop 58 = .ok (.aload_n 0, 1) := by decide +kernel
theorem ddC_pop_59 : decode cC_pop 59 = .ok (.getfield 15, 3) := by decide +kernel
theorem ddC_pop_62 : decode cC_pop 62 = .ok (.iload_n 1, 1) := by decide +kernel
theorem ddC_pop_63 : decode cC_pop 63 = .ok (.dup2, 1) := by decide +kernel
theorem ddC_pop_64 : decode cC_pop 64 = .ok (.iaload, 1) := by decide +kernel
theorem ddC_pop_65 : decode cC_pop 65 = .ok (.iconst 1, 1) := by decide +kernel
theorem ddC_pop_66 : decode cC_pop 66 = .ok (.isub, 1) := by decide +kernel
theorem ddC_pop_67 : decode cC_pop 67 = .ok (.iastore, 1) := by decide +kernel
theorem ddC_pop_68 : decode cC_pop 68 = .ok (.iload_n 2, 1) := by decide +kernel
theorem ddC_pop_69 : decode cC_pop 69 = .ok (.ireturn, 1) := by decide +kernel
set_option maxHeartbeats 2000000 in
theorem zBC_pop_23 {G : GXM} {X : CxM} (hG : GokM G) (C : CoM G X cC_pop "HomeFreed$Chains") (N : mLM X = 3) {d : Nat} (hD : dpM X = d) (hd : 0 ≤ d)  {q : Int32 × Mem} (E : EnM G X (some .int) (some (.int q.1)) q.2 0 0) {M : Mem} (h : BC_pop_23 M = some q) : ZM G X 23 [] [] M 0 0 := by
  unfold BC_pop_23 at h
  refine zz_iconst (v := (-1)) C ddC_pop_23 (by decide) ?_
  obtain rfl := Option.some.inj h
  exact zz_iret C E ddC_pop_24
set_option maxHeartbeats 2000000 in
theorem xC_pop {G : GXM} {l : Launch} (hG : GokM G) (d : Nat) (hd : 0 ≤ d) {v0 : Nat} {v1 : Int32} {M : Mem} {q : Int32 × Mem} (h : fC_pop v0 v1 M = some q) : ExM G l d 0 0 yC_pop cC_pop 3 (some .int) [.ref v0, .int v1] M (some (.int q.1)) q.2 := by
  refine ex_of hG (by decide +kernel) (Nat.le_of_ble_eq_true rfl) ?_
  intro X hl C E N hD hn
  show ZM G X 0 [(0, .ref v0), (1, .int v1)] [] M 0 0
  unfold fC_pop at h
  refine zz_iload_n C 1 ddC_pop_0 rfl rfl ?_
  refine zz_if_lt (tgt := 23) C ddC_pop_1 rfl (fun hc => ?_) (fun hc => ?_)
  · replace h := iteT h hc
    refine zz_loc (L1 := []) [] rfl ?_
    exact zBC_pop_23 hG C N hD hd E h
  · replace h := iteF h hc
    refine zz_iload_n C 1 ddC_pop_4 rfl rfl ?_
    refine zz_aload_n C 0 ddC_pop_5 rfl rfl ?_
    obtain ⟨h1, h⟩ := gdN h
    obtain ⟨h2, h⟩ := gdN h
    refine zz_getr C ddC_pop_6 fl_C_9 rfl h1 (of_decide_eq_true h2) ?_
    obtain ⟨h3, h⟩ := gdN h
    refine zz_alenI C ddC_pop_9 h3 ?_
    refine zz_icmp_ge (tgt := 23) C ddC_pop_10 rfl (fun hc => ?_) (fun hc => ?_)
    · replace h := iteT h hc
      refine zz_loc (L1 := []) [] rfl ?_
      exact zBC_pop_23 hG C N hD hd E h
    · replace h := iteF h hc
      refine zz_aload_n C 0 ddC_pop_13 rfl rfl ?_
      refine zz_getr C ddC_pop_14 fl_C_9 rfl h1 (of_decide_eq_true h2) ?_
      refine zz_iload_n C 1 ddC_pop_17 rfl rfl ?_
      obtain ⟨h4, h⟩ := gdN h
      refine zz_iaload C ddC_pop_18 h4 ?_
      refine zz_iconst (v := (-1)) C ddC_pop_19 (by decide) ?_
      refine zz_icmp_ne (tgt := 25) C ddC_pop_20 rfl (fun hc => ?_) (fun hc => ?_)
      · replace h := iteF h hc
        refine zz_aload_n C 0 ddC_pop_25 rfl rfl ?_
        refine zz_getr C ddC_pop_26 fl_C_9 rfl h1 (of_decide_eq_true h2) ?_
        refine zz_iload_n C 1 ddC_pop_29 rfl rfl ?_
        refine zz_iaload C ddC_pop_30 h4 ?_
        refine zz_istore_n (L1 := [(2, .int (giM M (grM M v0 0) (Int32.toNatClampNeg v1))), (0, .ref v0), (1, .int v1)]) C ddC_pop_31 rfl N (by decide) rfl ?_
        refine zz_aload_n C 1 ddC_pop_32 rfl rfl ?_
        refine zz_getr C ddC_pop_33 fl_C_9 rfl h1 (of_decide_eq_true h2) ?_
        refine zz_iload_n C 2 ddC_pop_36 rfl rfl ?_
        refine zz_aload_n C 1 ddC_pop_37 rfl rfl ?_
        obtain ⟨h5, h⟩ := gdN h
        refine zz_getr C ddC_pop_38 fl_C_18 rfl h1 (of_decide_eq_true h5) ?_
        refine zz_iload_n C 0 ddC_pop_41 rfl rfl ?_
        obtain ⟨h6, h⟩ := gdN h
        refine zz_iaload C ddC_pop_42 h6 ?_
        obtain ⟨h7, h⟩ := gdN h
        refine zz_iastore C ddC_pop_43 h7 ?_
        refine zz_aload_n C 1 ddC_pop_44 rfl rfl ?_
        refine zz_getr C ddC_pop_45 fl_C_18 rfl h1 (of_decide_eq_true h5) ?_
        refine zz_iload_n C 0 ddC_pop_48 rfl rfl ?_
        refine zz_iconst (v := (-1)) C ddC_pop_49 (by decide) ?_
        obtain ⟨h8, h⟩ := gdN h
        refine zz_iastore C ddC_pop_50 h8 ?_
        refine zz_aload_n C 1 ddC_pop_51 rfl rfl ?_
        obtain ⟨h9, h⟩ := gdN h
        refine zz_getr C ddC_pop_52 fl_C_21 rfl h1 (of_decide_eq_true h9) ?_
        refine zz_iload_n C 0 ddC_pop_55 rfl rfl ?_
        refine zz_iconst (v := (-1)) C ddC_pop_56 (by decide) ?_
        obtain ⟨h10, h⟩ := gdN h
        refine zz_iastore C ddC_pop_57 h10 ?_
        refine zz_aload_n C 1 ddC_pop_58 rfl rfl ?_
        obtain ⟨h11, h⟩ := gdN h
        refine zz_getr C ddC_pop_59 fl_C_15 rfl h1 (of_decide_eq_true h11) ?_
        refine zz_iload_n C 2 ddC_pop_62 rfl rfl ?_
        refine zz_dup2 C ddC_pop_63 rfl rfl ?_
        obtain ⟨h12, h⟩ := gdN h
        refine zz_iaload C ddC_pop_64 h12 ?_
        refine zz_iconst (v := 1) C ddC_pop_65 (by decide) ?_
        refine zz_isub C ddC_pop_66 ?_
        obtain ⟨h13, h⟩ := gdN h
        refine zz_iastore C ddC_pop_67 h13 ?_
        refine zz_iload_n C 0 ddC_pop_68 rfl rfl ?_
        obtain rfl := Option.some.inj h
        exact zz_iret C E ddC_pop_69
      · replace h := iteT h hc
        refine zz_loc (L1 := []) [] rfl ?_
        exact zBC_pop_23 hG C N hD hd E h
