/-! THE REFERENCE: what its acts do -/
theorem RF_si (M : Mem) (i : Nat) (x : Int32) : RF M (siM M 1011 i x) := ⟨rfl, fun _ h1 _ => giM_un h1, fun k _ => by rw [giM_un (by omega)]⟩
theorem LM_makeEmpty_S (f : Nat) : LM_makeEmpty_14 (f + 1) = BM_makeEmpty_14 (LM_makeEmpty_14 f) := rfl
section MA
variable {M M' : Mem} {ρ : Rul} {β : Nat} {S : HSt} {p t b l q c w : Nat}
theorem RC_si {S' : HSt} {i : Nat} {x : Int32} (C : RC M ρ S) (h : RW (ud (giM M 1011) i x) S') : RC (siM M 1011 i x) ρ S' := RC_mk C (RF_si M i x) (by rw [giM_ud]; exact h)
theorem RW_nil {N : Nat → Int32} (W : Wd S) (h : RW N S) (hl : l < 112) : RW (ud N (la l) (nI 0)) (wbl S (ud (bl S) l [])) := by
  refine RW_rows W h [l] (fun k hk => by cases List.mem_singleton.mp hk; exact hl) (fun i hi => ud_n _ _ ?_) (fun k hk => ?_) (fun k _ hk => ud_n _ _ (fun e => hk (by rw [e]; exact List.mem_singleton_self _)))
  · have := hi l (List.mem_singleton_self _)
    omega
  · cases List.mem_singleton.mp hk
    rw [ud_s]
    exact ⟨ud_s _ _ _, fun i hi => absurd hi (Nat.not_lt_zero _)⟩
theorem Wd_nil (W : Wd S) : Wd (wbl S (ud (bl S) l [])) := by
  refine ⟨fun k hk => ?_, W.2⟩
  show (ud (bl S) l [] k).length ≤ cpl k
  by_cases e : k = l
  · rw [e, ud_s]; exact Nat.zero_le _
  · rw [ud_n _ _ e]; exact W.1 k hk
theorem mEnq (C : RC M ρ S) (W : Wd S) (hp : p < 16) (hq : 6 * ow S p + cl S p < 24) (hl : (qu S (6 * ow S p + cl S p)).length < 16) : ∃ M', fM_enqueue 1003 (nI p) M = some M' ∧ RF M M' ∧ RC M' ρ (oEnq p S) := by
  have H := C.1
  have C1 : RC (siM M 1011 (166 * p) (nI 1)) ρ (wkd S (ud (kd S) p 1)) := RC_si C (RW_kd W C.2.2.2 hp)
  have e1 := mOwnQ C1 hp
  have e1 : fM_ownQueue 1003 (nI p) (siM M 1011 (166 * p) (nI 1)) = some (nI (2656 + 17 * (6 * ow S p + cl S p)), siM M 1011 (166 * p) (nI 1)) := e1
  have rq := rv_q C1 hq
  have rq : Rw (giM (siM M 1011 (166 * p) (nI 1)) 1011) (2656 + 17 * (6 * ow S p + cl S p)) (qu S (6 * ow S p + cl S p)) := rq
  obtain ⟨N', e2, R2, F2⟩ := addLast_ok (v := p) C1.1 rq (by omega)
  refine ⟨_, ?_, RF_tr (RF_si M _ _) (RF_sa _ N'), RC_sa C1 (RW_qu (S := wkd S (ud (kd S) p 1)) W C1.2.2.2 hq (fun i hi => F2 i ?_) R2)⟩
  · simp (disch := omega) only [fM_enqueue, fM_set, gd1, bs1, ↓reduceIte, d_nz, d_nn, or_true, true_or, or_false, false_or, decide_true, Sum.elim_inl, Sum.elim_inr, ↓l_m1, l_0, l_1, l_2, l_3, l_4, l_5, l_6, l_7, l_8, l_9, l_10, l_16, l_17, l_18, l_20, l_23, l_24, l_30, l_31, l_32, l_39, l_40, l_41, l_48, l_57, l_58, l_59, l_60, l_63, l_90, l_97, l_98, l_99, l_100, l_102, l_103, l_104, l_107, l_109, l_112, l_115, l_116, l_117, l_120, l_122, l_126, l_166, l_180, l_240, l_255, l_640, l_999, l_2656, l_3064, l_3704, l_3708, l_3712, l_3713, l_3893, l_155720, l_1000000, n_ltT, n_ltF, n_leT, n_leF, n_eqT, n_eqF, n_eqm, n_eqm', n_mltn, n_mlen, n_nltm, n_nlem, n_mltm, n_mlem, n_add, n_mul, n_sub, n_subm, n_cl, n_ofNat, n_div, n_mod, obM_si, rdI_si, wrI_si, lnI_si, grM_si', tgM_si', obM_sa, rdI_sa, wrI_sa, lnI_sa, grM_sa', tgM_sa', ms_ob H, ms_g1 H, ms_g5 H, ms_g6 H, ms_g8 H, ms_g9 H, ms_g11 H, ms_g12 H, ms_g15 H, ms_g16 H, ms_g18 H, ms_g19 H, ms_g20 H, ms_g22 H, ms_g24 H, ms_g27 H, ms_g32 H, ms_g21 H, ms_t1 H, ms_r1 H, ms_w1 H, ms_l1 H, ms_t5 H, ms_r5 H, ms_w5 H, ms_l5 H, ms_t6 H, ms_r6 H, ms_w6 H, ms_l6 H, ms_t8 H, ms_r8 H, ms_w8 H, ms_l8 H, ms_t9 H, ms_r9 H, ms_w9 H, ms_l9 H, ms_t11 H, ms_r11 H, ms_w11 H, ms_l11 H, ms_t12 H, ms_r12 H, ms_w12 H, ms_l12 H, ms_t15 H, ms_r15 H, ms_w15 H, ms_l15 H, ms_t16 H, ms_r16 H, ms_w16 H, ms_l16 H, ms_t18 H, ms_r18 H, ms_w18 H, ms_l18 H, ms_t19 H, ms_r19 H, ms_w19 H, ms_l19 H, ms_t20 H, ms_r20 H, ms_w20 H, ms_l20 H, ms_t22 H, ms_r22 H, ms_w22 H, ms_l22 H, ms_t24 H, ms_r24 H, ms_w24 H, ms_l24 H, ms_t27 H, ms_r27 H, ms_w27 H, ms_l27 H, ms_t32 H, ms_r32 H, ms_w32 H, ms_l32 H, ms_b H, Nat.add_zero, e1, e2]
  · unfold qa at hi
    omega
theorem mLeave (C : RC M ρ S) (V : Inv ρ β S) (hp : p < 16) : ∃ M', fM_leaveQueue 1003 (nI p) M = some M' ∧ RF M M' ∧ RC M' ρ (oLeave p S) := by
  have H := C.1
  have hR := ru_b C.2.2.1
  have hk := rv_k C hp
  have hk3 := (V.1 p hp).1
  unfold oLeave
  by_cases h1 : kd S p = 1
  · rw [if_pos h1]
    rw [h1] at hk
    have hq := q_lt (by omega) (by omega) V.1 hp (Or.inl h1)
    have hql := qlen V hq.2.2
    have e1 := mOwnQ C hp
    obtain ⟨N', e2, R2, F2⟩ := takeOut_ok (v := p) H (rv_q C hq.2.2) (V.2.2.1 _ hq.2.2).1 (by omega) (fun y hy => by
      have := (((V.2.2.1 _ hq.2.2).2 y).mp hy).1
      omega) (by omega)
    refine ⟨_, ?_, RF_sa M N', RC_sa C (RW_qu (Wd_of C.2.2.1 V) C.2.2.2 hq.2.2 (fun i hi => F2 i ?_) R2)⟩
    · simp (disch := omega) only [fM_leaveQueue, fM_of, BM_leaveQueue_20, gd1, bs1, ↓reduceIte, d_nz, d_nn, or_true, true_or, or_false, false_or, decide_true, Sum.elim_inl, Sum.elim_inr, ↓l_m1, l_0, l_1, l_2, l_3, l_4, l_5, l_6, l_7, l_8, l_9, l_10, l_16, l_17, l_18, l_20, l_23, l_24, l_30, l_31, l_32, l_39, l_40, l_41, l_48, l_57, l_58, l_59, l_60, l_63, l_90, l_97, l_98, l_99, l_100, l_102, l_103, l_104, l_107, l_109, l_112, l_115, l_116, l_117, l_120, l_122, l_126, l_166, l_180, l_240, l_255, l_640, l_999, l_2656, l_3064, l_3704, l_3708, l_3712, l_3713, l_3893, l_155720, l_1000000, n_ltT, n_ltF, n_leT, n_leF, n_eqT, n_eqF, n_eqm, n_eqm', n_mltn, n_mlen, n_nltm, n_nlem, n_mltm, n_mlem, n_add, n_mul, n_sub, n_subm, n_cl, n_ofNat, n_div, n_mod, obM_si, rdI_si, wrI_si, lnI_si, grM_si', tgM_si', obM_sa, rdI_sa, wrI_sa, lnI_sa, grM_sa', tgM_sa', ms_ob H, ms_g1 H, ms_g5 H, ms_g6 H, ms_g8 H, ms_g9 H, ms_g11 H, ms_g12 H, ms_g15 H, ms_g16 H, ms_g18 H, ms_g19 H, ms_g20 H, ms_g22 H, ms_g24 H, ms_g27 H, ms_g32 H, ms_g21 H, ms_t1 H, ms_r1 H, ms_w1 H, ms_l1 H, ms_t5 H, ms_r5 H, ms_w5 H, ms_l5 H, ms_t6 H, ms_r6 H, ms_w6 H, ms_l6 H, ms_t8 H, ms_r8 H, ms_w8 H, ms_l8 H, ms_t9 H, ms_r9 H, ms_w9 H, ms_l9 H, ms_t11 H, ms_r11 H, ms_w11 H, ms_l11 H, ms_t12 H, ms_r12 H, ms_w12 H, ms_l12 H, ms_t15 H, ms_r15 H, ms_w15 H, ms_l15 H, ms_t16 H, ms_r16 H, ms_w16 H, ms_l16 H, ms_t18 H, ms_r18 H, ms_w18 H, ms_l18 H, ms_t19 H, ms_r19 H, ms_w19 H, ms_l19 H, ms_t20 H, ms_r20 H, ms_w20 H, ms_l20 H, ms_t22 H, ms_r22 H, ms_w22 H, ms_l22 H, ms_t24 H, ms_r24 H, ms_w24 H, ms_l24 H, ms_t27 H, ms_r27 H, ms_w27 H, ms_l27 H, ms_t32 H, ms_r32 H, ms_w32 H, ms_l32 H, ms_b H, Nat.add_zero, hk, e1, e2]
    · unfold qa at hi
      omega
  · rw [if_neg h1]
    refine ⟨M, ?_, RF_refl M, C⟩
    simp (disch := omega) only [fM_leaveQueue, fM_of, BM_leaveQueue_20, gd1, bs1, ↓reduceIte, d_nz, d_nn, or_true, true_or, or_false, false_or, decide_true, Sum.elim_inl, Sum.elim_inr, ↓l_m1, l_0, l_1, l_2, l_3, l_4, l_5, l_6, l_7, l_8, l_9, l_10, l_16, l_17, l_18, l_20, l_23, l_24, l_30, l_31, l_32, l_39, l_40, l_41, l_48, l_57, l_58, l_59, l_60, l_63, l_90, l_97, l_98, l_99, l_100, l_102, l_103, l_104, l_107, l_109, l_112, l_115, l_116, l_117, l_120, l_122, l_126, l_166, l_180, l_240, l_255, l_640, l_999, l_2656, l_3064, l_3704, l_3708, l_3712, l_3713, l_3893, l_155720, l_1000000, n_ltT, n_ltF, n_leT, n_leF, n_eqT, n_eqF, n_eqm, n_eqm', n_mltn, n_mlen, n_nltm, n_nlem, n_mltm, n_mlem, n_add, n_mul, n_sub, n_subm, n_cl, n_ofNat, n_div, n_mod, obM_si, rdI_si, wrI_si, lnI_si, grM_si', tgM_si', obM_sa, rdI_sa, wrI_sa, lnI_sa, grM_sa', tgM_sa', ms_ob H, ms_g1 H, ms_g5 H, ms_g6 H, ms_g8 H, ms_g9 H, ms_g11 H, ms_g12 H, ms_g15 H, ms_g16 H, ms_g18 H, ms_g19 H, ms_g20 H, ms_g22 H, ms_g24 H, ms_g27 H, ms_g32 H, ms_g21 H, ms_t1 H, ms_r1 H, ms_w1 H, ms_l1 H, ms_t5 H, ms_r5 H, ms_w5 H, ms_l5 H, ms_t6 H, ms_r6 H, ms_w6 H, ms_l6 H, ms_t8 H, ms_r8 H, ms_w8 H, ms_l8 H, ms_t9 H, ms_r9 H, ms_w9 H, ms_l9 H, ms_t11 H, ms_r11 H, ms_w11 H, ms_l11 H, ms_t12 H, ms_r12 H, ms_w12 H, ms_l12 H, ms_t15 H, ms_r15 H, ms_w15 H, ms_l15 H, ms_t16 H, ms_r16 H, ms_w16 H, ms_l16 H, ms_t18 H, ms_r18 H, ms_w18 H, ms_l18 H, ms_t19 H, ms_r19 H, ms_w19 H, ms_l19 H, ms_t20 H, ms_r20 H, ms_w20 H, ms_l20 H, ms_t22 H, ms_r22 H, ms_w22 H, ms_l22 H, ms_t24 H, ms_r24 H, ms_w24 H, ms_l24 H, ms_t27 H, ms_r27 H, ms_w27 H, ms_l27 H, ms_t32 H, ms_r32 H, ms_w32 H, ms_l32 H, ms_b H, Nat.add_zero, hk]
theorem Wd_leave (W : Wd S) : Wd (oLeave p S) := by
  unfold oLeave
  by_cases h1 : kd S p = 1
  · rw [if_pos h1]
    refine ⟨W.1, fun q hq => ?_, W.2.2⟩
    show (ud (qu S) _ _ q).length ≤ 16
    by_cases e : q = 6 * ow S p + cl S p
    · rw [e, ud_s]
      have h2 := W.2.1 q hq
      rw [e] at h2
      exact Nat.le_trans List.length_erase_le h2
    · rw [ud_n _ _ e]; exact W.2.1 q hq
  · rw [if_neg h1]; exact W
theorem me_step (f : Nat) (H : MS M) (hp : p < 16) (hw : w < 3) : LM_makeEmpty_14 (f + 1) 1003 (nI p) (nI w) M = LM_makeEmpty_14 f 1003 (nI p) (nI (w + 1)) (siM M 1011 (166 * p + 3 + 41 * w) (nI 0)) := by
  show BM_makeEmpty_14 (LM_makeEmpty_14 f) 1003 (nI p) (nI w) M = _
  simp (disch := omega) only [BM_makeEmpty_14, fM_listAt, gd1, bs1, ↓reduceIte, d_nz, d_nn, or_true, true_or, or_false, false_or, decide_true, Sum.elim_inl, Sum.elim_inr, ↓l_m1, l_0, l_1, l_2, l_3, l_4, l_5, l_6, l_7, l_8, l_9, l_10, l_16, l_17, l_18, l_20, l_23, l_24, l_30, l_31, l_32, l_39, l_40, l_41, l_48, l_57, l_58, l_59, l_60, l_63, l_90, l_97, l_98, l_99, l_100, l_102, l_103, l_104, l_107, l_109, l_112, l_115, l_116, l_117, l_120, l_122, l_126, l_166, l_180, l_240, l_255, l_640, l_999, l_2656, l_3064, l_3704, l_3708, l_3712, l_3713, l_3893, l_155720, l_1000000, n_ltT, n_ltF, n_leT, n_leF, n_eqT, n_eqF, n_eqm, n_eqm', n_mltn, n_mlen, n_nltm, n_nlem, n_mltm, n_mlem, n_add, n_mul, n_sub, n_subm, n_cl, n_ofNat, n_div, n_mod, obM_si, rdI_si, wrI_si, lnI_si, grM_si', tgM_si', obM_sa, rdI_sa, wrI_sa, lnI_sa, grM_sa', tgM_sa', ms_ob H, ms_g1 H, ms_g5 H, ms_g6 H, ms_g8 H, ms_g9 H, ms_g11 H, ms_g12 H, ms_g15 H, ms_g16 H, ms_g18 H, ms_g19 H, ms_g20 H, ms_g22 H, ms_g24 H, ms_g27 H, ms_g32 H, ms_g21 H, ms_t1 H, ms_r1 H, ms_w1 H, ms_l1 H, ms_t5 H, ms_r5 H, ms_w5 H, ms_l5 H, ms_t6 H, ms_r6 H, ms_w6 H, ms_l6 H, ms_t8 H, ms_r8 H, ms_w8 H, ms_l8 H, ms_t9 H, ms_r9 H, ms_w9 H, ms_l9 H, ms_t11 H, ms_r11 H, ms_w11 H, ms_l11 H, ms_t12 H, ms_r12 H, ms_w12 H, ms_l12 H, ms_t15 H, ms_r15 H, ms_w15 H, ms_l15 H, ms_t16 H, ms_r16 H, ms_w16 H, ms_l16 H, ms_t18 H, ms_r18 H, ms_w18 H, ms_l18 H, ms_t19 H, ms_r19 H, ms_w19 H, ms_l19 H, ms_t20 H, ms_r20 H, ms_w20 H, ms_l20 H, ms_t22 H, ms_r22 H, ms_w22 H, ms_l22 H, ms_t24 H, ms_r24 H, ms_w24 H, ms_l24 H, ms_t27 H, ms_r27 H, ms_w27 H, ms_l27 H, ms_t32 H, ms_r32 H, ms_w32 H, ms_l32 H, ms_b H]
theorem me_end (f : Nat) : LM_makeEmpty_14 (f + 1) 1003 (nI p) (nI 3) M = some M := by
  show BM_makeEmpty_14 (LM_makeEmpty_14 f) 1003 (nI p) (nI 3) M = _
  simp (disch := omega) only [BM_makeEmpty_14, gd1, bs1, ↓reduceIte, d_nz, d_nn, or_true, true_or, or_false, false_or, decide_true, Sum.elim_inl, Sum.elim_inr, ↓l_m1, l_0, l_1, l_2, l_3, l_4, l_5, l_6, l_7, l_8, l_9, l_10, l_16, l_17, l_18, l_20, l_23, l_24, l_30, l_31, l_32, l_39, l_40, l_41, l_48, l_57, l_58, l_59, l_60, l_63, l_90, l_97, l_98, l_99, l_100, l_102, l_103, l_104, l_107, l_109, l_112, l_115, l_116, l_117, l_120, l_122, l_126, l_166, l_180, l_240, l_255, l_640, l_999, l_2656, l_3064, l_3704, l_3708, l_3712, l_3713, l_3893, l_155720, l_1000000, n_ltT, n_ltF, n_leT, n_leF, n_eqT, n_eqF, n_eqm, n_eqm', n_mltn, n_mlen, n_nltm, n_nlem, n_mltm, n_mlem, n_add, n_mul, n_sub, n_subm, n_cl, n_ofNat, n_div, n_mod, obM_si, rdI_si, wrI_si, lnI_si, grM_si', tgM_si', obM_sa, rdI_sa, wrI_sa, lnI_sa, grM_sa', tgM_sa']
theorem me_all (f : Nat) (H : MS M) (hp : p < 16) : LM_makeEmpty_14 (f + 1 + 1 + 1 + 1) 1003 (nI p) (nI 0) M = some (siM (siM (siM M 1011 (166 * p + 3) (nI 0)) 1011 (166 * p + 3 + 41) (nI 0)) 1011 (166 * p + 3 + 82) (nI 0)) := by
  have k2 : ∀ M, MS M → LM_makeEmpty_14 (f + 1 + 1) 1003 (nI p) (nI 2) M = some (siM M 1011 (166 * p + 3 + 82) (nI 0)) := fun M H => (me_step (w := 2) (f + 1) H hp (by omega)).trans (me_end f)
  have k1 : ∀ M, MS M → LM_makeEmpty_14 (f + 1 + 1 + 1) 1003 (nI p) (nI 1) M = some (siM (siM M 1011 (166 * p + 3 + 41) (nI 0)) 1011 (166 * p + 3 + 82) (nI 0)) := fun M H => (me_step (w := 1) (f + 1 + 1) H hp (by omega)).trans (k2 _ (MS_2 rfl H))
  exact (me_step (w := 0) (f + 1 + 1 + 1) H hp (by omega)).trans (k1 _ (MS_2 rfl H))
theorem mEmptyRun {M1 : Mem} (H : MS M) (e1 : fM_leaveQueue 1003 (nI p) M = some M1) (s1 : M1.2 = M.2) (hp : p < 16) : fM_makeEmpty 1003 (nI p) M = some (siM (siM (siM (siM M1 1011 (166 * p) (nI 0)) 1011 (166 * p + 3) (nI 0)) 1011 (166 * p + 3 + 41) (nI 0)) 1011 (166 * p + 3 + 82) (nI 0)) := by
  obtain ⟨f, hf⟩ : ∃ f, 1000000 = f + 1 + 1 + 1 + 1 := ⟨999996, rfl⟩
  have k := me_all f (M := siM M1 1011 (166 * p) (nI 0)) (MS_2 s1 H) hp
  rw [← hf] at k
  simp (disch := omega) only [fM_makeEmpty, fM_set, gd1, bs1, ↓reduceIte, d_nz, d_nn, or_true, true_or, or_false, false_or, decide_true, Sum.elim_inl, Sum.elim_inr, ↓l_m1, l_0, l_1, l_2, l_3, l_4, l_5, l_6, l_7, l_8, l_9, l_10, l_16, l_17, l_18, l_20, l_23, l_24, l_30, l_31, l_32, l_39, l_40, l_41, l_48, l_57, l_58, l_59, l_60, l_63, l_90, l_97, l_98, l_99, l_100, l_102, l_103, l_104, l_107, l_109, l_112, l_115, l_116, l_117, l_120, l_122, l_126, l_166, l_180, l_240, l_255, l_640, l_999, l_2656, l_3064, l_3704, l_3708, l_3712, l_3713, l_3893, l_155720, l_1000000, n_ltT, n_ltF, n_leT, n_leF, n_eqT, n_eqF, n_eqm, n_eqm', n_mltn, n_mlen, n_nltm, n_nlem, n_mltm, n_mlem, n_add, n_mul, n_sub, n_subm, n_cl, n_ofNat, n_div, n_mod, obM_si, rdI_si, wrI_si, lnI_si, grM_si', tgM_si', obM_sa, rdI_sa, wrI_sa, lnI_sa, grM_sa', tgM_sa', obM_2 s1, rdI_2 s1, wrI_2 s1, lnI_2 s1, grM_2 s1, tgM_2 s1, ms_ob H, ms_g1 H, ms_g5 H, ms_g6 H, ms_g8 H, ms_g9 H, ms_g11 H, ms_g12 H, ms_g15 H, ms_g16 H, ms_g18 H, ms_g19 H, ms_g20 H, ms_g22 H, ms_g24 H, ms_g27 H, ms_g32 H, ms_g21 H, ms_t1 H, ms_r1 H, ms_w1 H, ms_l1 H, ms_t5 H, ms_r5 H, ms_w5 H, ms_l5 H, ms_t6 H, ms_r6 H, ms_w6 H, ms_l6 H, ms_t8 H, ms_r8 H, ms_w8 H, ms_l8 H, ms_t9 H, ms_r9 H, ms_w9 H, ms_l9 H, ms_t11 H, ms_r11 H, ms_w11 H, ms_l11 H, ms_t12 H, ms_r12 H, ms_w12 H, ms_l12 H, ms_t15 H, ms_r15 H, ms_w15 H, ms_l15 H, ms_t16 H, ms_r16 H, ms_w16 H, ms_l16 H, ms_t18 H, ms_r18 H, ms_w18 H, ms_l18 H, ms_t19 H, ms_r19 H, ms_w19 H, ms_l19 H, ms_t20 H, ms_r20 H, ms_w20 H, ms_l20 H, ms_t22 H, ms_r22 H, ms_w22 H, ms_l22 H, ms_t24 H, ms_r24 H, ms_w24 H, ms_l24 H, ms_t27 H, ms_r27 H, ms_w27 H, ms_l27 H, ms_t32 H, ms_r32 H, ms_w32 H, ms_l32 H, ms_b H, Nat.add_zero, e1, k]
theorem mEmptyRC (C1 : RC M ρ (oLeave p S)) (W1 : Wd (oLeave p S)) (hp : p < 16) : RC (siM (siM (siM (siM M 1011 (166 * p) (nI 0)) 1011 (166 * p + 3) (nI 0)) 1011 (166 * p + 3 + 41) (nI 0)) 1011 (166 * p + 3 + 82) (nI 0)) ρ (oEmpty p S) := by
  have C2 : RC (siM M 1011 (166 * p) (nI 0)) ρ (wkd (oLeave p S) (ud (kd (oLeave p S)) p 0)) := RC_si C1 (RW_kd W1 C1.2.2.2 hp)
  have W2 : Wd (wkd (oLeave p S) (ud (kd (oLeave p S)) p 0)) := W1
  have C3 := RC_si C2 (RW_nil W2 C2.2.2.2 (l := 3 * p) (by omega))
  have W3 := Wd_nil (l := 3 * p) W2
  have C4 := RC_si C3 (RW_nil W3 C3.2.2.2 (l := 3 * p + 1) (by omega))
  have W4 := Wd_nil (l := 3 * p + 1) W3
  have C5 := RC_si C4 (RW_nil W4 C4.2.2.2 (l := 3 * p + 2) (by omega))
  have a0 : la (3 * p) = 166 * p + 3 := la_3 (w := 0) hp (by omega)
  have a1 : la (3 * p + 1) = 166 * p + 3 + 41 := la_3 (w := 1) hp (by omega)
  have a2 : la (3 * p + 2) = 166 * p + 3 + 82 := la_3 (w := 2) hp (by omega)
  rw [a0, a1, a2] at C5
  have g1 := leave_pr p S
  unfold oEmpty
  rw [g1.1, bl_wkd, g1.2.2.2.2.1] at C5
  exact C5
theorem mEmpty (C : RC M ρ S) (V : Inv ρ β S) (hp : p < 16) : ∃ M', fM_makeEmpty 1003 (nI p) M = some M' ∧ RF M M' ∧ RC M' ρ (oEmpty p S) := by
  obtain ⟨M1, e1, F1, C1⟩ := mLeave C V hp
  have W1 := Wd_leave (p := p) (Wd_of C.2.2.1 V)
  exact ⟨_, mEmptyRun C.1 e1 F1.1 hp, RF_tr F1 (RF_tr (RF_si _ _ _) (RF_tr (RF_si _ _ _) (RF_tr (RF_si _ _ _) (RF_si _ _ _)))), mEmptyRC C1 W1 hp⟩
theorem mMove {k : Nat} (C : RC M ρ S) (W : Wd S) (hl : l < 112) (hk : k < 112) (hne : l ≠ k) (hlen : (bl S l).length + (bl S k).length ≤ cpl k) : ∃ M', fM_moveAhead 1003 (nI (la l)) (nI (la k)) M = some M' ∧ RF M M' ∧ RC M' ρ (oMove l k S) := by
  have H := C.1
  have h1 := la_rg hl
  have h2 := la_rg hk
  have h3 := la_dj hl hk hne
  have w1 := W.1 l hl
  have w2 := W.1 k hk
  obtain ⟨N', e, z, R2, F⟩ := moveAhead_ok H (C.2.2.2.2.1 l hl) (C.2.2.2.2.1 k hk) (by omega) (by omega) (by omega)
  refine ⟨_, e, RF_sa M N', RC_sa C (RW_rows W C.2.2.2 [l, k] (fun x hx => ?_) (fun i hi => ?_) (fun x hx => ?_) (fun x _ hx => ?_))⟩
  · rcases List.mem_cons.mp hx with rfl | hx
    · exact hl
    · cases List.mem_singleton.mp hx; exact hk
  · have i1 := hi l (by simp)
    have i2 := hi k (by simp)
    exact F i (by omega) (by omega)
  · rcases List.mem_cons.mp hx with rfl | hx
    · rw [ud_s]
      exact ⟨z, fun i hi => absurd hi (Nat.not_lt_zero _)⟩
    · cases List.mem_singleton.mp hx
      rw [ud_n _ _ (Ne.symm hne), ud_s]
      exact R2
  · have x1 : x ≠ l := fun e => hx (by rw [e]; simp)
    have x2 : x ≠ k := fun e => hx (by rw [e]; simp)
    rw [ud_n _ _ x1, ud_n _ _ x2]
theorem move_nil (h : bl S l = []) (k : Nat) : oMove l k S = S := by
  have e : ud (ud (bl S) k (bl S l ++ bl S k)) l [] = bl S := by
    funext x
    by_cases h1 : x = l
    · rw [h1, ud_s, h]
    · rw [ud_n _ _ h1]
      by_cases h2 : x = k
      · rw [h2, ud_s, h]; rfl
      · rw [ud_n _ _ h2]
  unfold oMove
  rw [e]
  rfl
theorem mHome (C : RC M ρ S) (V : Inv ρ β S) (ht : t < rT ρ) (hp : p < 16) : ∃ M', fM_goHome 1003 (nI t) (nI p) M = some (nI (bl S (48 + 16 * t + p)).length, M') ∧ RF M M' ∧ RC M' ρ (aHome ρ t p S) := by
  have H := C.1
  have hR := ru_b C.2.2.1
  have W := Wd_of C.2.2.1 V
  have V1 : Inv ρ β (oHome t p S) := inv_home (by omega) hp V
  have hlen : (bl S (48 + 16 * t + p)).length + (bl S (3 * p + 2)).length ≤ cpl (3 * p + 2) := by
    have h1 := (Wd_of C.2.2.1 V1).1 (3 * p + 2) (by omega)
    have e : bl (oHome t p S) (3 * p + 2) = bl S (48 + 16 * t + p) ++ bl S (3 * p + 2) := by
      show ud (ud (bl S) (3 * p + 2) _) (48 + 16 * t + p) [] (3 * p + 2) = _
      rw [ud_n _ _ (by omega), ud_s]
    rw [e, List.length_append] at h1
    exact h1
  have hb := (rv_b C (t := t) (by omega) hp).1
  have hl := bl_len C.2.2.1 V (l := 48 + 16 * t + p) (by omega)
  obtain ⟨M1, e1, F1, C1⟩ := mMove (l := 48 + 16 * t + p) (k := 3 * p + 2) C W (by omega) (by omega) (by omega) hlen
  rw [la_b hp, la_3 hp (by omega)] at e1
  have e1 : fM_moveAhead 1003 (nI (3064 + 10 * (16 * t + p))) (nI (166 * p + 3 + 82)) M = some M1 := e1
  have s1 := F1.1
  unfold aHome
  by_cases h0 : bl S (48 + 16 * t + p) = []
  · rw [if_pos h0]
    rw [move_nil h0] at C1
    refine ⟨M1, ?_, F1, C1⟩
    rw [h0] at hb ⊢
    simp (disch := omega) only [fM_goHome, fM_boxAt, fM_listAt, BM_goHome_52, gd1, bs1, ↓reduceIte, d_nz, d_nn, or_true, true_or, or_false, false_or, decide_true, Sum.elim_inl, Sum.elim_inr, ↓l_m1, l_0, l_1, l_2, l_3, l_4, l_5, l_6, l_7, l_8, l_9, l_10, l_16, l_17, l_18, l_20, l_23, l_24, l_30, l_31, l_32, l_39, l_40, l_41, l_48, l_57, l_58, l_59, l_60, l_63, l_90, l_97, l_98, l_99, l_100, l_102, l_103, l_104, l_107, l_109, l_112, l_115, l_116, l_117, l_120, l_122, l_126, l_166, l_180, l_240, l_255, l_640, l_999, l_2656, l_3064, l_3704, l_3708, l_3712, l_3713, l_3893, l_155720, l_1000000, n_ltT, n_ltF, n_leT, n_leF, n_eqT, n_eqF, n_eqm, n_eqm', n_mltn, n_mlen, n_nltm, n_nlem, n_mltm, n_mlem, n_add, n_mul, n_sub, n_subm, n_cl, n_ofNat, n_div, n_mod, obM_si, rdI_si, wrI_si, lnI_si, grM_si', tgM_si', obM_sa, rdI_sa, wrI_sa, lnI_sa, grM_sa', tgM_sa', ms_ob H, ms_g1 H, ms_g5 H, ms_g6 H, ms_g8 H, ms_g9 H, ms_g11 H, ms_g12 H, ms_g15 H, ms_g16 H, ms_g18 H, ms_g19 H, ms_g20 H, ms_g22 H, ms_g24 H, ms_g27 H, ms_g32 H, ms_g21 H, ms_t1 H, ms_r1 H, ms_w1 H, ms_l1 H, ms_t5 H, ms_r5 H, ms_w5 H, ms_l5 H, ms_t6 H, ms_r6 H, ms_w6 H, ms_l6 H, ms_t8 H, ms_r8 H, ms_w8 H, ms_l8 H, ms_t9 H, ms_r9 H, ms_w9 H, ms_l9 H, ms_t11 H, ms_r11 H, ms_w11 H, ms_l11 H, ms_t12 H, ms_r12 H, ms_w12 H, ms_l12 H, ms_t15 H, ms_r15 H, ms_w15 H, ms_l15 H, ms_t16 H, ms_r16 H, ms_w16 H, ms_l16 H, ms_t18 H, ms_r18 H, ms_w18 H, ms_l18 H, ms_t19 H, ms_r19 H, ms_w19 H, ms_l19 H, ms_t20 H, ms_r20 H, ms_w20 H, ms_l20 H, ms_t22 H, ms_r22 H, ms_w22 H, ms_l22 H, ms_t24 H, ms_r24 H, ms_w24 H, ms_l24 H, ms_t27 H, ms_r27 H, ms_w27 H, ms_l27 H, ms_t32 H, ms_r32 H, ms_w32 H, ms_l32 H, ms_b H, Nat.reduceMul, hb, List.length_nil, e1]
  · rw [if_neg h0]
    have hl0 : 0 < (bl S (48 + 16 * t + p)).length := List.length_pos_iff.mpr h0
    have C1 : RC M1 ρ (oHome t p S) := C1
    have hk := rv_k C1 hp
    have hk : giM M1 1011 (166 * p) = nI (kd S p) := hk
    have hk3 := (V.1 p hp).1
    have u1 := mUsed C1 V1 hp
    have hu := usd_le C.2.2.1 V1 hp
    by_cases h3 : kd S p = 3
    · rw [h3] at hk
      by_cases h4 : usd ρ (oHome t p S) p = 0
      · rw [if_pos ⟨h3, h4⟩]
        obtain ⟨M2, e2, F2, C2⟩ := mEmpty C1 V1 hp
        rw [h4] at u1
        refine ⟨M2, ?_, RF_tr F1 F2, C2⟩
        simp (disch := omega) only [fM_goHome, fM_boxAt, fM_listAt, fM_of, BM_goHome_52, gd1, bs1, ↓reduceIte, d_nz, d_nn, or_true, true_or, or_false, false_or, decide_true, Sum.elim_inl, Sum.elim_inr, ↓l_m1, l_0, l_1, l_2, l_3, l_4, l_5, l_6, l_7, l_8, l_9, l_10, l_16, l_17, l_18, l_20, l_23, l_24, l_30, l_31, l_32, l_39, l_40, l_41, l_48, l_57, l_58, l_59, l_60, l_63, l_90, l_97, l_98, l_99, l_100, l_102, l_103, l_104, l_107, l_109, l_112, l_115, l_116, l_117, l_120, l_122, l_126, l_166, l_180, l_240, l_255, l_640, l_999, l_2656, l_3064, l_3704, l_3708, l_3712, l_3713, l_3893, l_155720, l_1000000, n_ltT, n_ltF, n_leT, n_leF, n_eqT, n_eqF, n_eqm, n_eqm', n_mltn, n_mlen, n_nltm, n_nlem, n_mltm, n_mlem, n_add, n_mul, n_sub, n_subm, n_cl, n_ofNat, n_div, n_mod, obM_si, rdI_si, wrI_si, lnI_si, grM_si', tgM_si', obM_sa, rdI_sa, wrI_sa, lnI_sa, grM_sa', tgM_sa', obM_2 s1, rdI_2 s1, wrI_2 s1, lnI_2 s1, grM_2 s1, tgM_2 s1, ms_ob H, ms_g1 H, ms_g5 H, ms_g6 H, ms_g8 H, ms_g9 H, ms_g11 H, ms_g12 H, ms_g15 H, ms_g16 H, ms_g18 H, ms_g19 H, ms_g20 H, ms_g22 H, ms_g24 H, ms_g27 H, ms_g32 H, ms_g21 H, ms_t1 H, ms_r1 H, ms_w1 H, ms_l1 H, ms_t5 H, ms_r5 H, ms_w5 H, ms_l5 H, ms_t6 H, ms_r6 H, ms_w6 H, ms_l6 H, ms_t8 H, ms_r8 H, ms_w8 H, ms_l8 H, ms_t9 H, ms_r9 H, ms_w9 H, ms_l9 H, ms_t11 H, ms_r11 H, ms_w11 H, ms_l11 H, ms_t12 H, ms_r12 H, ms_w12 H, ms_l12 H, ms_t15 H, ms_r15 H, ms_w15 H, ms_l15 H, ms_t16 H, ms_r16 H, ms_w16 H, ms_l16 H, ms_t18 H, ms_r18 H, ms_w18 H, ms_l18 H, ms_t19 H, ms_r19 H, ms_w19 H, ms_l19 H, ms_t20 H, ms_r20 H, ms_w20 H, ms_l20 H, ms_t22 H, ms_r22 H, ms_w22 H, ms_l22 H, ms_t24 H, ms_r24 H, ms_w24 H, ms_l24 H, ms_t27 H, ms_r27 H, ms_w27 H, ms_l27 H, ms_t32 H, ms_r32 H, ms_w32 H, ms_l32 H, ms_b H, Nat.reduceMul, Nat.add_zero, hb, e1, hk, u1, e2]
      · rw [if_neg (fun q => h4 q.2)]
        refine ⟨M1, ?_, F1, C1⟩
        simp (disch := omega) only [fM_goHome, fM_boxAt, fM_listAt, fM_of, BM_goHome_52, gd1, bs1, ↓reduceIte, d_nz, d_nn, or_true, true_or, or_false, false_or, decide_true, Sum.elim_inl, Sum.elim_inr, ↓l_m1, l_0, l_1, l_2, l_3, l_4, l_5, l_6, l_7, l_8, l_9, l_10, l_16, l_17, l_18, l_20, l_23, l_24, l_30, l_31, l_32, l_39, l_40, l_41, l_48, l_57, l_58, l_59, l_60, l_63, l_90, l_97, l_98, l_99, l_100, l_102, l_103, l_104, l_107, l_109, l_112, l_115, l_116, l_117, l_120, l_122, l_126, l_166, l_180, l_240, l_255, l_640, l_999, l_2656, l_3064, l_3704, l_3708, l_3712, l_3713, l_3893, l_155720, l_1000000, n_ltT, n_ltF, n_leT, n_leF, n_eqT, n_eqF, n_eqm, n_eqm', n_mltn, n_mlen, n_nltm, n_nlem, n_mltm, n_mlem, n_add, n_mul, n_sub, n_subm, n_cl, n_ofNat, n_div, n_mod, obM_si, rdI_si, wrI_si, lnI_si, grM_si', tgM_si', obM_sa, rdI_sa, wrI_sa, lnI_sa, grM_sa', tgM_sa', obM_2 s1, rdI_2 s1, wrI_2 s1, lnI_2 s1, grM_2 s1, tgM_2 s1, ms_ob H, ms_g1 H, ms_g5 H, ms_g6 H, ms_g8 H, ms_g9 H, ms_g11 H, ms_g12 H, ms_g15 H, ms_g16 H, ms_g18 H, ms_g19 H, ms_g20 H, ms_g22 H, ms_g24 H, ms_g27 H, ms_g32 H, ms_g21 H, ms_t1 H, ms_r1 H, ms_w1 H, ms_l1 H, ms_t5 H, ms_r5 H, ms_w5 H, ms_l5 H, ms_t6 H, ms_r6 H, ms_w6 H, ms_l6 H, ms_t8 H, ms_r8 H, ms_w8 H, ms_l8 H, ms_t9 H, ms_r9 H, ms_w9 H, ms_l9 H, ms_t11 H, ms_r11 H, ms_w11 H, ms_l11 H, ms_t12 H, ms_r12 H, ms_w12 H, ms_l12 H, ms_t15 H, ms_r15 H, ms_w15 H, ms_l15 H, ms_t16 H, ms_r16 H, ms_w16 H, ms_l16 H, ms_t18 H, ms_r18 H, ms_w18 H, ms_l18 H, ms_t19 H, ms_r19 H, ms_w19 H, ms_l19 H, ms_t20 H, ms_r20 H, ms_w20 H, ms_l20 H, ms_t22 H, ms_r22 H, ms_w22 H, ms_l22 H, ms_t24 H, ms_r24 H, ms_w24 H, ms_l24 H, ms_t27 H, ms_r27 H, ms_w27 H, ms_l27 H, ms_t32 H, ms_r32 H, ms_w32 H, ms_l32 H, ms_b H, Nat.reduceMul, Nat.add_zero, hb, e1, hk, u1]
    · rw [if_neg (fun q => h3 q.1)]
      refine ⟨M1, ?_, F1, C1⟩
      simp (disch := omega) only [fM_goHome, fM_boxAt, fM_listAt, fM_of, BM_goHome_52, gd1, bs1, ↓reduceIte, d_nz, d_nn, or_true, true_or, or_false, false_or, decide_true, Sum.elim_inl, Sum.elim_inr, ↓l_m1, l_0, l_1, l_2, l_3, l_4, l_5, l_6, l_7, l_8, l_9, l_10, l_16, l_17, l_18, l_20, l_23, l_24, l_30, l_31, l_32, l_39, l_40, l_41, l_48, l_57, l_58, l_59, l_60, l_63, l_90, l_97, l_98, l_99, l_100, l_102, l_103, l_104, l_107, l_109, l_112, l_115, l_116, l_117, l_120, l_122, l_126, l_166, l_180, l_240, l_255, l_640, l_999, l_2656, l_3064, l_3704, l_3708, l_3712, l_3713, l_3893, l_155720, l_1000000, n_ltT, n_ltF, n_leT, n_leF, n_eqT, n_eqF, n_eqm, n_eqm', n_mltn, n_mlen, n_nltm, n_nlem, n_mltm, n_mlem, n_add, n_mul, n_sub, n_subm, n_cl, n_ofNat, n_div, n_mod, obM_si, rdI_si, wrI_si, lnI_si, grM_si', tgM_si', obM_sa, rdI_sa, wrI_sa, lnI_sa, grM_sa', tgM_sa', obM_2 s1, rdI_2 s1, wrI_2 s1, lnI_2 s1, grM_2 s1, tgM_2 s1, ms_ob H, ms_g1 H, ms_g5 H, ms_g6 H, ms_g8 H, ms_g9 H, ms_g11 H, ms_g12 H, ms_g15 H, ms_g16 H, ms_g18 H, ms_g19 H, ms_g20 H, ms_g22 H, ms_g24 H, ms_g27 H, ms_g32 H, ms_g21 H, ms_t1 H, ms_r1 H, ms_w1 H, ms_l1 H, ms_t5 H, ms_r5 H, ms_w5 H, ms_l5 H, ms_t6 H, ms_r6 H, ms_w6 H, ms_l6 H, ms_t8 H, ms_r8 H, ms_w8 H, ms_l8 H, ms_t9 H, ms_r9 H, ms_w9 H, ms_l9 H, ms_t11 H, ms_r11 H, ms_w11 H, ms_l11 H, ms_t12 H, ms_r12 H, ms_w12 H, ms_l12 H, ms_t15 H, ms_r15 H, ms_w15 H, ms_l15 H, ms_t16 H, ms_r16 H, ms_w16 H, ms_l16 H, ms_t18 H, ms_r18 H, ms_w18 H, ms_l18 H, ms_t19 H, ms_r19 H, ms_w19 H, ms_l19 H, ms_t20 H, ms_r20 H, ms_w20 H, ms_l20 H, ms_t22 H, ms_r22 H, ms_w22 H, ms_l22 H, ms_t24 H, ms_r24 H, ms_w24 H, ms_l24 H, ms_t27 H, ms_r27 H, ms_w27 H, ms_l27 H, ms_t32 H, ms_r32 H, ms_w32 H, ms_l32 H, ms_b H, Nat.reduceMul, Nat.add_zero, hb, e1, hk]
theorem mLoop {g : Nat → HSt → HSt} {L : Nat → Nat → Mem → Option Mem} {n f : Nat} (C : RC M ρ S) (V : Inv ρ β S) (hf : n < f) (hs : ∀ f i M S, i < n → RC M ρ S → Inv ρ β S → ∃ M', L (f + 1) i M = L f (i + 1) M' ∧ RF M M' ∧ RC M' ρ (g i S) ∧ Inv ρ β (g i S)) (he : ∀ f M S, RC M ρ S → L (f + 1) n M = some M) : ∃ M', L f 0 M = some M' ∧ RF M M' ∧ RC M' ρ (fr g n S) ∧ Inv ρ β (fr g n S) := by
  have key := loop_ex (L := L) (n := n) (fun i M' => RF M M' ∧ RC M' ρ (fr g i S) ∧ Inv ρ β (fr g i S)) (fun M' => RF M M' ∧ RC M' ρ (fr g n S) ∧ Inv ρ β (fr g n S))
    (fun f i a hi hP => by
      obtain ⟨M', e, F, C', V'⟩ := hs f i a _ hi hP.2.1 hP.2.2
      exact ⟨M', e, RF_tr hP.1 F, C', V'⟩)
    (fun f a hP => ⟨a, he f a _ hP.2.1, hP⟩) n f 0 M (by omega) hf ⟨RF_refl _, C, V⟩
  exact key
theorem mSend (C : RC M ρ S) (V : Inv ρ β S) (ht : t < rT ρ) : ∃ M', fM_sendNow 1003 (nI t) M = some (nI (aCnt ρ t S), M') ∧ RF M M' ∧ RC M' ρ (aHomes ρ t S) ∧ Inv ρ β (aHomes ρ t S) := by
  have hR := ru_b C.2.2.1
  have key := loop_ex (L := fun f i (a : Int32 × Mem) => LM_sendNow_4 f 1003 (nI t) a.1 (nI i) a.2) (n := rP ρ) (fun i a => a.1 = nI (fr (fun p n => n + (bl (fr (aHome ρ t) p S) (48 + 16 * t + p)).length) i 0) ∧ RF M a.2 ∧ RC a.2 ρ (fr (aHome ρ t) i S) ∧ Inv ρ β (fr (aHome ρ t) i S)) (fun a => a.1 = nI (aCnt ρ t S) ∧ RF M a.2 ∧ RC a.2 ρ (aHomes ρ t S) ∧ Inv ρ β (aHomes ρ t S))
    (fun f i a hi hP => by
      obtain ⟨a1, a2⟩ := a
      obtain ⟨h1, h2, h3, h4⟩ := hP
      have h3 : RC a2 ρ (fr (aHome ρ t) i S) := h3
      obtain rfl : a1 = _ := h1
      obtain ⟨M', e, F, C'⟩ := mHome h3 h4 ht (p := i) (by omega)
      have H := h3.1
      have R := h3.2.1
      refine ⟨(_, M'), ?_, rfl, RF_tr h2 F, C', inv_aHome (by omega) (by omega) h4⟩
      show BM_sendNow_4 (LM_sendNow_4 f) 1003 (nI t) _ (nI i) a2 = _
      simp (disch := omega) only [BM_sendNow_4, gd1, bs1, ↓reduceIte, d_nz, d_nn, or_true, true_or, or_false, false_or, decide_true, Sum.elim_inl, Sum.elim_inr, ↓l_m1, l_0, l_1, l_2, l_3, l_4, l_5, l_6, l_7, l_8, l_9, l_10, l_16, l_17, l_18, l_20, l_23, l_24, l_30, l_31, l_32, l_39, l_40, l_41, l_48, l_57, l_58, l_59, l_60, l_63, l_90, l_97, l_98, l_99, l_100, l_102, l_103, l_104, l_107, l_109, l_112, l_115, l_116, l_117, l_120, l_122, l_126, l_166, l_180, l_240, l_255, l_640, l_999, l_2656, l_3064, l_3704, l_3708, l_3712, l_3713, l_3893, l_155720, l_1000000, n_ltT, n_ltF, n_leT, n_leF, n_eqT, n_eqF, n_eqm, n_eqm', n_mltn, n_mlen, n_nltm, n_nlem, n_mltm, n_mlem, n_add, n_mul, n_sub, n_subm, n_cl, n_ofNat, n_div, n_mod, obM_si, rdI_si, wrI_si, lnI_si, grM_si', tgM_si', obM_sa, rdI_sa, wrI_sa, lnI_sa, grM_sa', tgM_sa', ms_ob H, ms_g1 H, ms_g5 H, ms_g6 H, ms_g8 H, ms_g9 H, ms_g11 H, ms_g12 H, ms_g15 H, ms_g16 H, ms_g18 H, ms_g19 H, ms_g20 H, ms_g22 H, ms_g24 H, ms_g27 H, ms_g32 H, ms_g21 H, ms_t1 H, ms_r1 H, ms_w1 H, ms_l1 H, ms_t5 H, ms_r5 H, ms_w5 H, ms_l5 H, ms_t6 H, ms_r6 H, ms_w6 H, ms_l6 H, ms_t8 H, ms_r8 H, ms_w8 H, ms_l8 H, ms_t9 H, ms_r9 H, ms_w9 H, ms_l9 H, ms_t11 H, ms_r11 H, ms_w11 H, ms_l11 H, ms_t12 H, ms_r12 H, ms_w12 H, ms_l12 H, ms_t15 H, ms_r15 H, ms_w15 H, ms_l15 H, ms_t16 H, ms_r16 H, ms_w16 H, ms_l16 H, ms_t18 H, ms_r18 H, ms_w18 H, ms_l18 H, ms_t19 H, ms_r19 H, ms_w19 H, ms_l19 H, ms_t20 H, ms_r20 H, ms_w20 H, ms_l20 H, ms_t22 H, ms_r22 H, ms_w22 H, ms_l22 H, ms_t24 H, ms_r24 H, ms_w24 H, ms_l24 H, ms_t27 H, ms_r27 H, ms_w27 H, ms_l27 H, ms_t32 H, ms_r32 H, ms_w32 H, ms_l32 H, ms_b H, rm_T R, rm_P R, rm_U R, rm_B R, rm_H R, rm_K R, e]
      rfl)
    (fun f a hP => by
      obtain ⟨a1, a2⟩ := a
      obtain ⟨h1, h2, h3, h4⟩ := hP
      have h3 : RC a2 ρ (fr (aHome ρ t) (rP ρ) S) := h3
      have H := h3.1
      have R := h3.2.1
      refine ⟨(a1, a2), ?_, h1, h2, h3, h4⟩
      show BM_sendNow_4 (LM_sendNow_4 f) 1003 (nI t) a1 (nI (rP ρ)) a2 = _
      simp (disch := omega) only [BM_sendNow_4, gd1, bs1, ↓reduceIte, d_nz, d_nn, or_true, true_or, or_false, false_or, decide_true, Sum.elim_inl, Sum.elim_inr, ↓l_m1, l_0, l_1, l_2, l_3, l_4, l_5, l_6, l_7, l_8, l_9, l_10, l_16, l_17, l_18, l_20, l_23, l_24, l_30, l_31, l_32, l_39, l_40, l_41, l_48, l_57, l_58, l_59, l_60, l_63, l_90, l_97, l_98, l_99, l_100, l_102, l_103, l_104, l_107, l_109, l_112, l_115, l_116, l_117, l_120, l_122, l_126, l_166, l_180, l_240, l_255, l_640, l_999, l_2656, l_3064, l_3704, l_3708, l_3712, l_3713, l_3893, l_155720, l_1000000, n_ltT, n_ltF, n_leT, n_leF, n_eqT, n_eqF, n_eqm, n_eqm', n_mltn, n_mlen, n_nltm, n_nlem, n_mltm, n_mlem, n_add, n_mul, n_sub, n_subm, n_cl, n_ofNat, n_div, n_mod, obM_si, rdI_si, wrI_si, lnI_si, grM_si', tgM_si', obM_sa, rdI_sa, wrI_sa, lnI_sa, grM_sa', tgM_sa', ms_ob H, ms_g1 H, ms_g5 H, ms_g6 H, ms_g8 H, ms_g9 H, ms_g11 H, ms_g12 H, ms_g15 H, ms_g16 H, ms_g18 H, ms_g19 H, ms_g20 H, ms_g22 H, ms_g24 H, ms_g27 H, ms_g32 H, ms_g21 H, ms_t1 H, ms_r1 H, ms_w1 H, ms_l1 H, ms_t5 H, ms_r5 H, ms_w5 H, ms_l5 H, ms_t6 H, ms_r6 H, ms_w6 H, ms_l6 H, ms_t8 H, ms_r8 H, ms_w8 H, ms_l8 H, ms_t9 H, ms_r9 H, ms_w9 H, ms_l9 H, ms_t11 H, ms_r11 H, ms_w11 H, ms_l11 H, ms_t12 H, ms_r12 H, ms_w12 H, ms_l12 H, ms_t15 H, ms_r15 H, ms_w15 H, ms_l15 H, ms_t16 H, ms_r16 H, ms_w16 H, ms_l16 H, ms_t18 H, ms_r18 H, ms_w18 H, ms_l18 H, ms_t19 H, ms_r19 H, ms_w19 H, ms_l19 H, ms_t20 H, ms_r20 H, ms_w20 H, ms_l20 H, ms_t22 H, ms_r22 H, ms_w22 H, ms_l22 H, ms_t24 H, ms_r24 H, ms_w24 H, ms_l24 H, ms_t27 H, ms_r27 H, ms_w27 H, ms_l27 H, ms_t32 H, ms_r32 H, ms_w32 H, ms_l32 H, ms_b H, rm_T R, rm_P R, rm_U R, rm_B R, rm_H R, rm_K R]) (rP ρ) 1000000 0 (nI 0, M) (by omega) (by omega) ⟨rfl, RF_refl _, C, V⟩
  obtain ⟨⟨r1, r2⟩, e, h1, h2⟩ := key
  obtain rfl : r1 = _ := h1
  refine ⟨r2, ?_, h2⟩
  have e : LM_sendNow_4 1000000 1003 (nI t) (nI 0) (nI 0) M = some (nI (aCnt ρ t S), r2) := e
  simp only [fM_sendNow, ↓l_m1, l_0, l_1, l_2, l_3, l_4, l_5, l_6, l_7, l_8, l_9, l_10, l_16, l_17, l_18, l_20, l_23, l_24, l_30, l_31, l_32, l_39, l_40, l_41, l_48, l_57, l_58, l_59, l_60, l_63, l_90, l_97, l_98, l_99, l_100, l_102, l_103, l_104, l_107, l_109, l_112, l_115, l_116, l_117, l_120, l_122, l_126, l_166, l_180, l_240, l_255, l_640, l_999, l_2656, l_3064, l_3704, l_3708, l_3712, l_3713, l_3893, l_155720, l_1000000, e, bs1]
theorem enq_len (hR : RuOK ρ) (V : Inv ρ β S) (hp : p < 16) (hk : kd S p = 2) : 6 * ow S p + cl S p < 24 ∧ (qu S (6 * ow S p + cl S p)).length < 16 := by
  have hb := ru_b hR
  have hq := q_lt (by omega) (by omega) V.1 hp (Or.inr hk)
  have h1 := qlen (inv_enq hp hk V) hq.2.2
  have e : qu (oEnq p S) (6 * ow S p + cl S p) = qu S (6 * ow S p + cl S p) ++ [p] := ud_s _ _ _
  rw [e, List.length_append, List.length_singleton] at h1
  exact ⟨hq.2.2, by omega⟩
theorem mQ1 (C : RC M ρ S) (V : Inv ρ β S) (ht : t < rT ρ) : ∃ M', LM_tickNow_8 1000000 1003 (nI t) (nI 0) M = some M' ∧ RF M M' ∧ RC M' ρ (fr (aQ1 t) (rP ρ) S) ∧ Inv ρ β (fr (aQ1 t) (rP ρ) S) := by
  have hR := ru_b C.2.2.1
  refine mLoop (L := fun f i M => LM_tickNow_8 f 1003 (nI t) (nI i) M) (g := aQ1 t) (n := rP ρ) C V (by omega) ?_ ?_
  · intro f i M S hi C V
    have hi16 : i < 16 := by omega
    have H := C.1
    have R := C.2.1
    have VA := inv_aQ1 (t := t) hi16 V
    have ho := mIsOf C V hi16 ht
    have hl := mListed C hi16
    have hk := rv_k C hi16
    have hk3 := (V.1 i hi16).1
    have hll := lst_le V.2.1 hi16
    have hcc := cut_le C.2.2.1 V.1 hi16
    revert VA
    unfold aQ1
    show (_ → ∃ M', BM_tickNow_8 (LM_tickNow_8 f) 1003 (nI t) (nI i) M = _ ∧ _)
    by_cases h1 : (kd S i = 1 ∨ kd S i = 2) ∧ ow S i = t
    · rw [if_pos h1] at ho
      by_cases h2 : kd S i = 2
      · rw [h2] at hk
        by_cases h3 : 0 < lst S i
        · rw [if_pos ⟨h2, h1.2, h3⟩]
          intro VA
          have hq := enq_len C.2.2.1 V hi16 h2
          obtain ⟨M', e, F, C'⟩ := mEnq C (Wd_of C.2.2.1 V) hi16 hq.1 hq.2
          refine ⟨M', ?_, F, C', VA⟩
          simp (disch := omega) only [BM_tickNow_8, BM_tickNow_50, fM_of, gd1, bs1, ↓reduceIte, d_nz, d_nn, or_true, true_or, or_false, false_or, decide_true, Sum.elim_inl, Sum.elim_inr, ↓l_m1, l_0, l_1, l_2, l_3, l_4, l_5, l_6, l_7, l_8, l_9, l_10, l_16, l_17, l_18, l_20, l_23, l_24, l_30, l_31, l_32, l_39, l_40, l_41, l_48, l_57, l_58, l_59, l_60, l_63, l_90, l_97, l_98, l_99, l_100, l_102, l_103, l_104, l_107, l_109, l_112, l_115, l_116, l_117, l_120, l_122, l_126, l_166, l_180, l_240, l_255, l_640, l_999, l_2656, l_3064, l_3704, l_3708, l_3712, l_3713, l_3893, l_155720, l_1000000, n_ltT, n_ltF, n_leT, n_leF, n_eqT, n_eqF, n_eqm, n_eqm', n_mltn, n_mlen, n_nltm, n_nlem, n_mltm, n_mlem, n_add, n_mul, n_sub, n_subm, n_cl, n_ofNat, n_div, n_mod, obM_si, rdI_si, wrI_si, lnI_si, grM_si', tgM_si', obM_sa, rdI_sa, wrI_sa, lnI_sa, grM_sa', tgM_sa', ms_ob H, ms_g1 H, ms_g5 H, ms_g6 H, ms_g8 H, ms_g9 H, ms_g11 H, ms_g12 H, ms_g15 H, ms_g16 H, ms_g18 H, ms_g19 H, ms_g20 H, ms_g22 H, ms_g24 H, ms_g27 H, ms_g32 H, ms_g21 H, ms_t1 H, ms_r1 H, ms_w1 H, ms_l1 H, ms_t5 H, ms_r5 H, ms_w5 H, ms_l5 H, ms_t6 H, ms_r6 H, ms_w6 H, ms_l6 H, ms_t8 H, ms_r8 H, ms_w8 H, ms_l8 H, ms_t9 H, ms_r9 H, ms_w9 H, ms_l9 H, ms_t11 H, ms_r11 H, ms_w11 H, ms_l11 H, ms_t12 H, ms_r12 H, ms_w12 H, ms_l12 H, ms_t15 H, ms_r15 H, ms_w15 H, ms_l15 H, ms_t16 H, ms_r16 H, ms_w16 H, ms_l16 H, ms_t18 H, ms_r18 H, ms_w18 H, ms_l18 H, ms_t19 H, ms_r19 H, ms_w19 H, ms_l19 H, ms_t20 H, ms_r20 H, ms_w20 H, ms_l20 H, ms_t22 H, ms_r22 H, ms_w22 H, ms_l22 H, ms_t24 H, ms_r24 H, ms_w24 H, ms_l24 H, ms_t27 H, ms_r27 H, ms_w27 H, ms_l27 H, ms_t32 H, ms_r32 H, ms_w32 H, ms_l32 H, ms_b H, rm_T R, rm_P R, rm_U R, rm_B R, rm_H R, rm_K R, Nat.add_zero, ho, hk, hl, e]
        · rw [if_neg (fun q => h3 q.2.2)]
          intro VA
          refine ⟨M, ?_, RF_refl _, C, V⟩
          simp (disch := omega) only [BM_tickNow_8, BM_tickNow_50, fM_of, gd1, bs1, ↓reduceIte, d_nz, d_nn, or_true, true_or, or_false, false_or, decide_true, Sum.elim_inl, Sum.elim_inr, ↓l_m1, l_0, l_1, l_2, l_3, l_4, l_5, l_6, l_7, l_8, l_9, l_10, l_16, l_17, l_18, l_20, l_23, l_24, l_30, l_31, l_32, l_39, l_40, l_41, l_48, l_57, l_58, l_59, l_60, l_63, l_90, l_97, l_98, l_99, l_100, l_102, l_103, l_104, l_107, l_109, l_112, l_115, l_116, l_117, l_120, l_122, l_126, l_166, l_180, l_240, l_255, l_640, l_999, l_2656, l_3064, l_3704, l_3708, l_3712, l_3713, l_3893, l_155720, l_1000000, n_ltT, n_ltF, n_leT, n_leF, n_eqT, n_eqF, n_eqm, n_eqm', n_mltn, n_mlen, n_nltm, n_nlem, n_mltm, n_mlem, n_add, n_mul, n_sub, n_subm, n_cl, n_ofNat, n_div, n_mod, obM_si, rdI_si, wrI_si, lnI_si, grM_si', tgM_si', obM_sa, rdI_sa, wrI_sa, lnI_sa, grM_sa', tgM_sa', ms_ob H, ms_g1 H, ms_g5 H, ms_g6 H, ms_g8 H, ms_g9 H, ms_g11 H, ms_g12 H, ms_g15 H, ms_g16 H, ms_g18 H, ms_g19 H, ms_g20 H, ms_g22 H, ms_g24 H, ms_g27 H, ms_g32 H, ms_g21 H, ms_t1 H, ms_r1 H, ms_w1 H, ms_l1 H, ms_t5 H, ms_r5 H, ms_w5 H, ms_l5 H, ms_t6 H, ms_r6 H, ms_w6 H, ms_l6 H, ms_t8 H, ms_r8 H, ms_w8 H, ms_l8 H, ms_t9 H, ms_r9 H, ms_w9 H, ms_l9 H, ms_t11 H, ms_r11 H, ms_w11 H, ms_l11 H, ms_t12 H, ms_r12 H, ms_w12 H, ms_l12 H, ms_t15 H, ms_r15 H, ms_w15 H, ms_l15 H, ms_t16 H, ms_r16 H, ms_w16 H, ms_l16 H, ms_t18 H, ms_r18 H, ms_w18 H, ms_l18 H, ms_t19 H, ms_r19 H, ms_w19 H, ms_l19 H, ms_t20 H, ms_r20 H, ms_w20 H, ms_l20 H, ms_t22 H, ms_r22 H, ms_w22 H, ms_l22 H, ms_t24 H, ms_r24 H, ms_w24 H, ms_l24 H, ms_t27 H, ms_r27 H, ms_w27 H, ms_l27 H, ms_t32 H, ms_r32 H, ms_w32 H, ms_l32 H, ms_b H, rm_T R, rm_P R, rm_U R, rm_B R, rm_H R, rm_K R, Nat.add_zero, ho, hk, hl]
      · rw [if_neg (fun q => h2 q.1)]
        intro VA
        refine ⟨M, ?_, RF_refl _, C, V⟩
        simp (disch := omega) only [BM_tickNow_8, BM_tickNow_50, fM_of, gd1, bs1, ↓reduceIte, d_nz, d_nn, or_true, true_or, or_false, false_or, decide_true, Sum.elim_inl, Sum.elim_inr, ↓l_m1, l_0, l_1, l_2, l_3, l_4, l_5, l_6, l_7, l_8, l_9, l_10, l_16, l_17, l_18, l_20, l_23, l_24, l_30, l_31, l_32, l_39, l_40, l_41, l_48, l_57, l_58, l_59, l_60, l_63, l_90, l_97, l_98, l_99, l_100, l_102, l_103, l_104, l_107, l_109, l_112, l_115, l_116, l_117, l_120, l_122, l_126, l_166, l_180, l_240, l_255, l_640, l_999, l_2656, l_3064, l_3704, l_3708, l_3712, l_3713, l_3893, l_155720, l_1000000, n_ltT, n_ltF, n_leT, n_leF, n_eqT, n_eqF, n_eqm, n_eqm', n_mltn, n_mlen, n_nltm, n_nlem, n_mltm, n_mlem, n_add, n_mul, n_sub, n_subm, n_cl, n_ofNat, n_div, n_mod, obM_si, rdI_si, wrI_si, lnI_si, grM_si', tgM_si', obM_sa, rdI_sa, wrI_sa, lnI_sa, grM_sa', tgM_sa', ms_ob H, ms_g1 H, ms_g5 H, ms_g6 H, ms_g8 H, ms_g9 H, ms_g11 H, ms_g12 H, ms_g15 H, ms_g16 H, ms_g18 H, ms_g19 H, ms_g20 H, ms_g22 H, ms_g24 H, ms_g27 H, ms_g32 H, ms_g21 H, ms_t1 H, ms_r1 H, ms_w1 H, ms_l1 H, ms_t5 H, ms_r5 H, ms_w5 H, ms_l5 H, ms_t6 H, ms_r6 H, ms_w6 H, ms_l6 H, ms_t8 H, ms_r8 H, ms_w8 H, ms_l8 H, ms_t9 H, ms_r9 H, ms_w9 H, ms_l9 H, ms_t11 H, ms_r11 H, ms_w11 H, ms_l11 H, ms_t12 H, ms_r12 H, ms_w12 H, ms_l12 H, ms_t15 H, ms_r15 H, ms_w15 H, ms_l15 H, ms_t16 H, ms_r16 H, ms_w16 H, ms_l16 H, ms_t18 H, ms_r18 H, ms_w18 H, ms_l18 H, ms_t19 H, ms_r19 H, ms_w19 H, ms_l19 H, ms_t20 H, ms_r20 H, ms_w20 H, ms_l20 H, ms_t22 H, ms_r22 H, ms_w22 H, ms_l22 H, ms_t24 H, ms_r24 H, ms_w24 H, ms_l24 H, ms_t27 H, ms_r27 H, ms_w27 H, ms_l27 H, ms_t32 H, ms_r32 H, ms_w32 H, ms_l32 H, ms_b H, rm_T R, rm_P R, rm_U R, rm_B R, rm_H R, rm_K R, Nat.add_zero, ho, hk]
    · rw [if_neg h1] at ho
      rw [if_neg (fun q => h1 ⟨Or.inr q.1, q.2.1⟩)]
      intro VA
      refine ⟨M, ?_, RF_refl _, C, V⟩
      simp (disch := omega) only [BM_tickNow_8, BM_tickNow_50, gd1, bs1, ↓reduceIte, d_nz, d_nn, or_true, true_or, or_false, false_or, decide_true, Sum.elim_inl, Sum.elim_inr, ↓l_m1, l_0, l_1, l_2, l_3, l_4, l_5, l_6, l_7, l_8, l_9, l_10, l_16, l_17, l_18, l_20, l_23, l_24, l_30, l_31, l_32, l_39, l_40, l_41, l_48, l_57, l_58, l_59, l_60, l_63, l_90, l_97, l_98, l_99, l_100, l_102, l_103, l_104, l_107, l_109, l_112, l_115, l_116, l_117, l_120, l_122, l_126, l_166, l_180, l_240, l_255, l_640, l_999, l_2656, l_3064, l_3704, l_3708, l_3712, l_3713, l_3893, l_155720, l_1000000, n_ltT, n_ltF, n_leT, n_leF, n_eqT, n_eqF, n_eqm, n_eqm', n_mltn, n_mlen, n_nltm, n_nlem, n_mltm, n_mlem, n_add, n_mul, n_sub, n_subm, n_cl, n_ofNat, n_div, n_mod, obM_si, rdI_si, wrI_si, lnI_si, grM_si', tgM_si', obM_sa, rdI_sa, wrI_sa, lnI_sa, grM_sa', tgM_sa', ms_ob H, ms_g1 H, ms_g5 H, ms_g6 H, ms_g8 H, ms_g9 H, ms_g11 H, ms_g12 H, ms_g15 H, ms_g16 H, ms_g18 H, ms_g19 H, ms_g20 H, ms_g22 H, ms_g24 H, ms_g27 H, ms_g32 H, ms_g21 H, ms_t1 H, ms_r1 H, ms_w1 H, ms_l1 H, ms_t5 H, ms_r5 H, ms_w5 H, ms_l5 H, ms_t6 H, ms_r6 H, ms_w6 H, ms_l6 H, ms_t8 H, ms_r8 H, ms_w8 H, ms_l8 H, ms_t9 H, ms_r9 H, ms_w9 H, ms_l9 H, ms_t11 H, ms_r11 H, ms_w11 H, ms_l11 H, ms_t12 H, ms_r12 H, ms_w12 H, ms_l12 H, ms_t15 H, ms_r15 H, ms_w15 H, ms_l15 H, ms_t16 H, ms_r16 H, ms_w16 H, ms_l16 H, ms_t18 H, ms_r18 H, ms_w18 H, ms_l18 H, ms_t19 H, ms_r19 H, ms_w19 H, ms_l19 H, ms_t20 H, ms_r20 H, ms_w20 H, ms_l20 H, ms_t22 H, ms_r22 H, ms_w22 H, ms_l22 H, ms_t24 H, ms_r24 H, ms_w24 H, ms_l24 H, ms_t27 H, ms_r27 H, ms_w27 H, ms_l27 H, ms_t32 H, ms_r32 H, ms_w32 H, ms_l32 H, ms_b H, rm_T R, rm_P R, rm_U R, rm_B R, rm_H R, rm_K R, ho]
  · intro f M S C
    have H := C.1
    have R := C.2.1
    show BM_tickNow_8 (LM_tickNow_8 f) 1003 (nI t) (nI (rP ρ)) M = _
    simp (disch := omega) only [BM_tickNow_8, gd1, bs1, ↓reduceIte, d_nz, d_nn, or_true, true_or, or_false, false_or, decide_true, Sum.elim_inl, Sum.elim_inr, ↓l_m1, l_0, l_1, l_2, l_3, l_4, l_5, l_6, l_7, l_8, l_9, l_10, l_16, l_17, l_18, l_20, l_23, l_24, l_30, l_31, l_32, l_39, l_40, l_41, l_48, l_57, l_58, l_59, l_60, l_63, l_90, l_97, l_98, l_99, l_100, l_102, l_103, l_104, l_107, l_109, l_112, l_115, l_116, l_117, l_120, l_122, l_126, l_166, l_180, l_240, l_255, l_640, l_999, l_2656, l_3064, l_3704, l_3708, l_3712, l_3713, l_3893, l_155720, l_1000000, n_ltT, n_ltF, n_leT, n_leF, n_eqT, n_eqF, n_eqm, n_eqm', n_mltn, n_mlen, n_nltm, n_nlem, n_mltm, n_mlem, n_add, n_mul, n_sub, n_subm, n_cl, n_ofNat, n_div, n_mod, obM_si, rdI_si, wrI_si, lnI_si, grM_si', tgM_si', obM_sa, rdI_sa, wrI_sa, lnI_sa, grM_sa', tgM_sa', ms_ob H, ms_g1 H, ms_g5 H, ms_g6 H, ms_g8 H, ms_g9 H, ms_g11 H, ms_g12 H, ms_g15 H, ms_g16 H, ms_g18 H, ms_g19 H, ms_g20 H, ms_g22 H, ms_g24 H, ms_g27 H, ms_g32 H, ms_g21 H, ms_t1 H, ms_r1 H, ms_w1 H, ms_l1 H, ms_t5 H, ms_r5 H, ms_w5 H, ms_l5 H, ms_t6 H, ms_r6 H, ms_w6 H, ms_l6 H, ms_t8 H, ms_r8 H, ms_w8 H, ms_l8 H, ms_t9 H, ms_r9 H, ms_w9 H, ms_l9 H, ms_t11 H, ms_r11 H, ms_w11 H, ms_l11 H, ms_t12 H, ms_r12 H, ms_w12 H, ms_l12 H, ms_t15 H, ms_r15 H, ms_w15 H, ms_l15 H, ms_t16 H, ms_r16 H, ms_w16 H, ms_l16 H, ms_t18 H, ms_r18 H, ms_w18 H, ms_l18 H, ms_t19 H, ms_r19 H, ms_w19 H, ms_l19 H, ms_t20 H, ms_r20 H, ms_w20 H, ms_l20 H, ms_t22 H, ms_r22 H, ms_w22 H, ms_l22 H, ms_t24 H, ms_r24 H, ms_w24 H, ms_l24 H, ms_t27 H, ms_r27 H, ms_w27 H, ms_l27 H, ms_t32 H, ms_r32 H, ms_w32 H, ms_l32 H, ms_b H, rm_T R, rm_P R, rm_U R, rm_B R, rm_H R, rm_K R]
theorem mBack (C : RC M ρ S) (V : Inv ρ β S) (hp : p < 16) : ∃ M', fM_giveBack 1003 (nI p) M = some M' ∧ RF M M' ∧ RC M' ρ (if kd S p = 1 ∧ usd ρ S p = 0 ∧ 1 < (qu S (6 * ow S p + cl S p)).length then oEmpty p S else S) := by
  have H := C.1
  have hR := ru_b C.2.2.1
  have hk := rv_k C hp
  have hk3 := (V.1 p hp).1
  have u1 := mUsed C V hp
  have hu := usd_le C.2.2.1 V hp
  by_cases h2 : kd S p = 1
  · rw [h2] at hk
    have hq := q_lt (by omega) (by omega) V.1 hp (Or.inl h2)
    have hql := qlen V hq.2.2
    have e1 := mOwnQ C hp
    have rq := (rv_q C hq.2.2).1
    by_cases h3 : usd ρ S p = 0
    · rw [h3] at u1
      by_cases h4 : 1 < (qu S (6 * ow S p + cl S p)).length
      · rw [if_pos ⟨h2, h3, h4⟩]
        obtain ⟨M', e, F, C'⟩ := mEmpty C V hp
        refine ⟨M', ?_, F, C'⟩
        simp (disch := omega) only [fM_giveBack, fM_of, BM_giveBack_37, gd1, bs1, ↓reduceIte, d_nz, d_nn, or_true, true_or, or_false, false_or, decide_true, Sum.elim_inl, Sum.elim_inr, ↓l_m1, l_0, l_1, l_2, l_3, l_4, l_5, l_6, l_7, l_8, l_9, l_10, l_16, l_17, l_18, l_20, l_23, l_24, l_30, l_31, l_32, l_39, l_40, l_41, l_48, l_57, l_58, l_59, l_60, l_63, l_90, l_97, l_98, l_99, l_100, l_102, l_103, l_104, l_107, l_109, l_112, l_115, l_116, l_117, l_120, l_122, l_126, l_166, l_180, l_240, l_255, l_640, l_999, l_2656, l_3064, l_3704, l_3708, l_3712, l_3713, l_3893, l_155720, l_1000000, n_ltT, n_ltF, n_leT, n_leF, n_eqT, n_eqF, n_eqm, n_eqm', n_mltn, n_mlen, n_nltm, n_nlem, n_mltm, n_mlem, n_add, n_mul, n_sub, n_subm, n_cl, n_ofNat, n_div, n_mod, obM_si, rdI_si, wrI_si, lnI_si, grM_si', tgM_si', obM_sa, rdI_sa, wrI_sa, lnI_sa, grM_sa', tgM_sa', ms_ob H, ms_g1 H, ms_g5 H, ms_g6 H, ms_g8 H, ms_g9 H, ms_g11 H, ms_g12 H, ms_g15 H, ms_g16 H, ms_g18 H, ms_g19 H, ms_g20 H, ms_g22 H, ms_g24 H, ms_g27 H, ms_g32 H, ms_g21 H, ms_t1 H, ms_r1 H, ms_w1 H, ms_l1 H, ms_t5 H, ms_r5 H, ms_w5 H, ms_l5 H, ms_t6 H, ms_r6 H, ms_w6 H, ms_l6 H, ms_t8 H, ms_r8 H, ms_w8 H, ms_l8 H, ms_t9 H, ms_r9 H, ms_w9 H, ms_l9 H, ms_t11 H, ms_r11 H, ms_w11 H, ms_l11 H, ms_t12 H, ms_r12 H, ms_w12 H, ms_l12 H, ms_t15 H, ms_r15 H, ms_w15 H, ms_l15 H, ms_t16 H, ms_r16 H, ms_w16 H, ms_l16 H, ms_t18 H, ms_r18 H, ms_w18 H, ms_l18 H, ms_t19 H, ms_r19 H, ms_w19 H, ms_l19 H, ms_t20 H, ms_r20 H, ms_w20 H, ms_l20 H, ms_t22 H, ms_r22 H, ms_w22 H, ms_l22 H, ms_t24 H, ms_r24 H, ms_w24 H, ms_l24 H, ms_t27 H, ms_r27 H, ms_w27 H, ms_l27 H, ms_t32 H, ms_r32 H, ms_w32 H, ms_l32 H, ms_b H, Nat.add_zero, hk, u1, e1, rq, e]
      · rw [if_neg (fun q => h4 q.2.2)]
        refine ⟨M, ?_, RF_refl _, C⟩
        simp (disch := omega) only [fM_giveBack, fM_of, BM_giveBack_37, gd1, bs1, ↓reduceIte, d_nz, d_nn, or_true, true_or, or_false, false_or, decide_true, Sum.elim_inl, Sum.elim_inr, ↓l_m1, l_0, l_1, l_2, l_3, l_4, l_5, l_6, l_7, l_8, l_9, l_10, l_16, l_17, l_18, l_20, l_23, l_24, l_30, l_31, l_32, l_39, l_40, l_41, l_48, l_57, l_58, l_59, l_60, l_63, l_90, l_97, l_98, l_99, l_100, l_102, l_103, l_104, l_107, l_109, l_112, l_115, l_116, l_117, l_120, l_122, l_126, l_166, l_180, l_240, l_255, l_640, l_999, l_2656, l_3064, l_3704, l_3708, l_3712, l_3713, l_3893, l_155720, l_1000000, n_ltT, n_ltF, n_leT, n_leF, n_eqT, n_eqF, n_eqm, n_eqm', n_mltn, n_mlen, n_nltm, n_nlem, n_mltm, n_mlem, n_add, n_mul, n_sub, n_subm, n_cl, n_ofNat, n_div, n_mod, obM_si, rdI_si, wrI_si, lnI_si, grM_si', tgM_si', obM_sa, rdI_sa, wrI_sa, lnI_sa, grM_sa', tgM_sa', ms_ob H, ms_g1 H, ms_g5 H, ms_g6 H, ms_g8 H, ms_g9 H, ms_g11 H, ms_g12 H, ms_g15 H, ms_g16 H, ms_g18 H, ms_g19 H, ms_g20 H, ms_g22 H, ms_g24 H, ms_g27 H, ms_g32 H, ms_g21 H, ms_t1 H, ms_r1 H, ms_w1 H, ms_l1 H, ms_t5 H, ms_r5 H, ms_w5 H, ms_l5 H, ms_t6 H, ms_r6 H, ms_w6 H, ms_l6 H, ms_t8 H, ms_r8 H, ms_w8 H, ms_l8 H, ms_t9 H, ms_r9 H, ms_w9 H, ms_l9 H, ms_t11 H, ms_r11 H, ms_w11 H, ms_l11 H, ms_t12 H, ms_r12 H, ms_w12 H, ms_l12 H, ms_t15 H, ms_r15 H, ms_w15 H, ms_l15 H, ms_t16 H, ms_r16 H, ms_w16 H, ms_l16 H, ms_t18 H, ms_r18 H, ms_w18 H, ms_l18 H, ms_t19 H, ms_r19 H, ms_w19 H, ms_l19 H, ms_t20 H, ms_r20 H, ms_w20 H, ms_l20 H, ms_t22 H, ms_r22 H, ms_w22 H, ms_l22 H, ms_t24 H, ms_r24 H, ms_w24 H, ms_l24 H, ms_t27 H, ms_r27 H, ms_w27 H, ms_l27 H, ms_t32 H, ms_r32 H, ms_w32 H, ms_l32 H, ms_b H, Nat.add_zero, hk, u1, e1, rq]
    · rw [if_neg (fun q => h3 q.2.1)]
      refine ⟨M, ?_, RF_refl _, C⟩
      simp (disch := omega) only [fM_giveBack, fM_of, BM_giveBack_37, gd1, bs1, ↓reduceIte, d_nz, d_nn, or_true, true_or, or_false, false_or, decide_true, Sum.elim_inl, Sum.elim_inr, ↓l_m1, l_0, l_1, l_2, l_3, l_4, l_5, l_6, l_7, l_8, l_9, l_10, l_16, l_17, l_18, l_20, l_23, l_24, l_30, l_31, l_32, l_39, l_40, l_41, l_48, l_57, l_58, l_59, l_60, l_63, l_90, l_97, l_98, l_99, l_100, l_102, l_103, l_104, l_107, l_109, l_112, l_115, l_116, l_117, l_120, l_122, l_126, l_166, l_180, l_240, l_255, l_640, l_999, l_2656, l_3064, l_3704, l_3708, l_3712, l_3713, l_3893, l_155720, l_1000000, n_ltT, n_ltF, n_leT, n_leF, n_eqT, n_eqF, n_eqm, n_eqm', n_mltn, n_mlen, n_nltm, n_nlem, n_mltm, n_mlem, n_add, n_mul, n_sub, n_subm, n_cl, n_ofNat, n_div, n_mod, obM_si, rdI_si, wrI_si, lnI_si, grM_si', tgM_si', obM_sa, rdI_sa, wrI_sa, lnI_sa, grM_sa', tgM_sa', ms_ob H, ms_g1 H, ms_g5 H, ms_g6 H, ms_g8 H, ms_g9 H, ms_g11 H, ms_g12 H, ms_g15 H, ms_g16 H, ms_g18 H, ms_g19 H, ms_g20 H, ms_g22 H, ms_g24 H, ms_g27 H, ms_g32 H, ms_g21 H, ms_t1 H, ms_r1 H, ms_w1 H, ms_l1 H, ms_t5 H, ms_r5 H, ms_w5 H, ms_l5 H, ms_t6 H, ms_r6 H, ms_w6 H, ms_l6 H, ms_t8 H, ms_r8 H, ms_w8 H, ms_l8 H, ms_t9 H, ms_r9 H, ms_w9 H, ms_l9 H, ms_t11 H, ms_r11 H, ms_w11 H, ms_l11 H, ms_t12 H, ms_r12 H, ms_w12 H, ms_l12 H, ms_t15 H, ms_r15 H, ms_w15 H, ms_l15 H, ms_t16 H, ms_r16 H, ms_w16 H, ms_l16 H, ms_t18 H, ms_r18 H, ms_w18 H, ms_l18 H, ms_t19 H, ms_r19 H, ms_w19 H, ms_l19 H, ms_t20 H, ms_r20 H, ms_w20 H, ms_l20 H, ms_t22 H, ms_r22 H, ms_w22 H, ms_l22 H, ms_t24 H, ms_r24 H, ms_w24 H, ms_l24 H, ms_t27 H, ms_r27 H, ms_w27 H, ms_l27 H, ms_t32 H, ms_r32 H, ms_w32 H, ms_l32 H, ms_b H, Nat.add_zero, hk, u1]
  · rw [if_neg (fun q => h2 q.1)]
    refine ⟨M, ?_, RF_refl _, C⟩
    simp (disch := omega) only [fM_giveBack, fM_of, BM_giveBack_37, gd1, bs1, ↓reduceIte, d_nz, d_nn, or_true, true_or, or_false, false_or, decide_true, Sum.elim_inl, Sum.elim_inr, ↓l_m1, l_0, l_1, l_2, l_3, l_4, l_5, l_6, l_7, l_8, l_9, l_10, l_16, l_17, l_18, l_20, l_23, l_24, l_30, l_31, l_32, l_39, l_40, l_41, l_48, l_57, l_58, l_59, l_60, l_63, l_90, l_97, l_98, l_99, l_100, l_102, l_103, l_104, l_107, l_109, l_112, l_115, l_116, l_117, l_120, l_122, l_126, l_166, l_180, l_240, l_255, l_640, l_999, l_2656, l_3064, l_3704, l_3708, l_3712, l_3713, l_3893, l_155720, l_1000000, n_ltT, n_ltF, n_leT, n_leF, n_eqT, n_eqF, n_eqm, n_eqm', n_mltn, n_mlen, n_nltm, n_nlem, n_mltm, n_mlem, n_add, n_mul, n_sub, n_subm, n_cl, n_ofNat, n_div, n_mod, obM_si, rdI_si, wrI_si, lnI_si, grM_si', tgM_si', obM_sa, rdI_sa, wrI_sa, lnI_sa, grM_sa', tgM_sa', ms_ob H, ms_g1 H, ms_g5 H, ms_g6 H, ms_g8 H, ms_g9 H, ms_g11 H, ms_g12 H, ms_g15 H, ms_g16 H, ms_g18 H, ms_g19 H, ms_g20 H, ms_g22 H, ms_g24 H, ms_g27 H, ms_g32 H, ms_g21 H, ms_t1 H, ms_r1 H, ms_w1 H, ms_l1 H, ms_t5 H, ms_r5 H, ms_w5 H, ms_l5 H, ms_t6 H, ms_r6 H, ms_w6 H, ms_l6 H, ms_t8 H, ms_r8 H, ms_w8 H, ms_l8 H, ms_t9 H, ms_r9 H, ms_w9 H, ms_l9 H, ms_t11 H, ms_r11 H, ms_w11 H, ms_l11 H, ms_t12 H, ms_r12 H, ms_w12 H, ms_l12 H, ms_t15 H, ms_r15 H, ms_w15 H, ms_l15 H, ms_t16 H, ms_r16 H, ms_w16 H, ms_l16 H, ms_t18 H, ms_r18 H, ms_w18 H, ms_l18 H, ms_t19 H, ms_r19 H, ms_w19 H, ms_l19 H, ms_t20 H, ms_r20 H, ms_w20 H, ms_l20 H, ms_t22 H, ms_r22 H, ms_w22 H, ms_l22 H, ms_t24 H, ms_r24 H, ms_w24 H, ms_l24 H, ms_t27 H, ms_r27 H, ms_w27 H, ms_l27 H, ms_t32 H, ms_r32 H, ms_w32 H, ms_l32 H, ms_b H, Nat.add_zero, hk]
theorem mQ2 (C : RC M ρ S) (V : Inv ρ β S) (ht : t < rT ρ) : ∃ M', LM_tickNow_58 1000000 1003 (nI t) (nI 0) M = some M' ∧ RF M M' ∧ RC M' ρ (fr (aQ2 ρ t) (rP ρ) S) ∧ Inv ρ β (fr (aQ2 ρ t) (rP ρ) S) := by
  have hR := ru_b C.2.2.1
  refine mLoop (L := fun f i M => LM_tickNow_58 f 1003 (nI t) (nI i) M) (g := aQ2 ρ t) (n := rP ρ) C V (by omega) ?_ ?_
  · intro f i M S hi C V
    have hi16 : i < 16 := by omega
    have H := C.1
    have R := C.2.1
    have VA := inv_aQ2 (t := t) hi16 V
    have ho := mIsOf C V hi16 ht
    obtain ⟨M', e, F, C'⟩ := mBack C V hi16
    show ∃ M', BM_tickNow_58 (LM_tickNow_58 f) 1003 (nI t) (nI i) M = _ ∧ _
    by_cases h1 : (kd S i = 1 ∨ kd S i = 2) ∧ ow S i = t
    · rw [if_pos h1] at ho
      refine ⟨M', ?_, F, ?_, VA⟩
      · simp (disch := omega) only [BM_tickNow_58, BM_tickNow_82, gd1, bs1, ↓reduceIte, d_nz, d_nn, or_true, true_or, or_false, false_or, decide_true, Sum.elim_inl, Sum.elim_inr, ↓l_m1, l_0, l_1, l_2, l_3, l_4, l_5, l_6, l_7, l_8, l_9, l_10, l_16, l_17, l_18, l_20, l_23, l_24, l_30, l_31, l_32, l_39, l_40, l_41, l_48, l_57, l_58, l_59, l_60, l_63, l_90, l_97, l_98, l_99, l_100, l_102, l_103, l_104, l_107, l_109, l_112, l_115, l_116, l_117, l_120, l_122, l_126, l_166, l_180, l_240, l_255, l_640, l_999, l_2656, l_3064, l_3704, l_3708, l_3712, l_3713, l_3893, l_155720, l_1000000, n_ltT, n_ltF, n_leT, n_leF, n_eqT, n_eqF, n_eqm, n_eqm', n_mltn, n_mlen, n_nltm, n_nlem, n_mltm, n_mlem, n_add, n_mul, n_sub, n_subm, n_cl, n_ofNat, n_div, n_mod, obM_si, rdI_si, wrI_si, lnI_si, grM_si', tgM_si', obM_sa, rdI_sa, wrI_sa, lnI_sa, grM_sa', tgM_sa', ms_ob H, ms_g1 H, ms_g5 H, ms_g6 H, ms_g8 H, ms_g9 H, ms_g11 H, ms_g12 H, ms_g15 H, ms_g16 H, ms_g18 H, ms_g19 H, ms_g20 H, ms_g22 H, ms_g24 H, ms_g27 H, ms_g32 H, ms_g21 H, ms_t1 H, ms_r1 H, ms_w1 H, ms_l1 H, ms_t5 H, ms_r5 H, ms_w5 H, ms_l5 H, ms_t6 H, ms_r6 H, ms_w6 H, ms_l6 H, ms_t8 H, ms_r8 H, ms_w8 H, ms_l8 H, ms_t9 H, ms_r9 H, ms_w9 H, ms_l9 H, ms_t11 H, ms_r11 H, ms_w11 H, ms_l11 H, ms_t12 H, ms_r12 H, ms_w12 H, ms_l12 H, ms_t15 H, ms_r15 H, ms_w15 H, ms_l15 H, ms_t16 H, ms_r16 H, ms_w16 H, ms_l16 H, ms_t18 H, ms_r18 H, ms_w18 H, ms_l18 H, ms_t19 H, ms_r19 H, ms_w19 H, ms_l19 H, ms_t20 H, ms_r20 H, ms_w20 H, ms_l20 H, ms_t22 H, ms_r22 H, ms_w22 H, ms_l22 H, ms_t24 H, ms_r24 H, ms_w24 H, ms_l24 H, ms_t27 H, ms_r27 H, ms_w27 H, ms_l27 H, ms_t32 H, ms_r32 H, ms_w32 H, ms_l32 H, ms_b H, rm_T R, rm_P R, rm_U R, rm_B R, rm_H R, rm_K R, ho, e]
      · have eq : aQ2 ρ t i S = (if kd S i = 1 ∧ usd ρ S i = 0 ∧ 1 < (qu S (6 * ow S i + cl S i)).length then oEmpty i S else S) := by
          unfold aQ2
          by_cases h2 : kd S i = 1 ∧ usd ρ S i = 0 ∧ 1 < (qu S (6 * ow S i + cl S i)).length
          · rw [if_pos h2, if_pos ⟨h2.1, h1.2, h2.2⟩]
          · rw [if_neg h2, if_neg (fun q => h2 ⟨q.1, q.2.2⟩)]
        rw [eq]
        exact C'
    · rw [if_neg h1] at ho
      have eq : aQ2 ρ t i S = S := if_neg (fun q => h1 ⟨Or.inl q.1, q.2.1⟩)
      rw [eq]
      refine ⟨M, ?_, RF_refl _, C, V⟩
      simp (disch := omega) only [BM_tickNow_58, BM_tickNow_82, gd1, bs1, ↓reduceIte, d_nz, d_nn, or_true, true_or, or_false, false_or, decide_true, Sum.elim_inl, Sum.elim_inr, ↓l_m1, l_0, l_1, l_2, l_3, l_4, l_5, l_6, l_7, l_8, l_9, l_10, l_16, l_17, l_18, l_20, l_23, l_24, l_30, l_31, l_32, l_39, l_40, l_41, l_48, l_57, l_58, l_59, l_60, l_63, l_90, l_97, l_98, l_99, l_100, l_102, l_103, l_104, l_107, l_109, l_112, l_115, l_116, l_117, l_120, l_122, l_126, l_166, l_180, l_240, l_255, l_640, l_999, l_2656, l_3064, l_3704, l_3708, l_3712, l_3713, l_3893, l_155720, l_1000000, n_ltT, n_ltF, n_leT, n_leF, n_eqT, n_eqF, n_eqm, n_eqm', n_mltn, n_mlen, n_nltm, n_nlem, n_mltm, n_mlem, n_add, n_mul, n_sub, n_subm, n_cl, n_ofNat, n_div, n_mod, obM_si, rdI_si, wrI_si, lnI_si, grM_si', tgM_si', obM_sa, rdI_sa, wrI_sa, lnI_sa, grM_sa', tgM_sa', ms_ob H, ms_g1 H, ms_g5 H, ms_g6 H, ms_g8 H, ms_g9 H, ms_g11 H, ms_g12 H, ms_g15 H, ms_g16 H, ms_g18 H, ms_g19 H, ms_g20 H, ms_g22 H, ms_g24 H, ms_g27 H, ms_g32 H, ms_g21 H, ms_t1 H, ms_r1 H, ms_w1 H, ms_l1 H, ms_t5 H, ms_r5 H, ms_w5 H, ms_l5 H, ms_t6 H, ms_r6 H, ms_w6 H, ms_l6 H, ms_t8 H, ms_r8 H, ms_w8 H, ms_l8 H, ms_t9 H, ms_r9 H, ms_w9 H, ms_l9 H, ms_t11 H, ms_r11 H, ms_w11 H, ms_l11 H, ms_t12 H, ms_r12 H, ms_w12 H, ms_l12 H, ms_t15 H, ms_r15 H, ms_w15 H, ms_l15 H, ms_t16 H, ms_r16 H, ms_w16 H, ms_l16 H, ms_t18 H, ms_r18 H, ms_w18 H, ms_l18 H, ms_t19 H, ms_r19 H, ms_w19 H, ms_l19 H, ms_t20 H, ms_r20 H, ms_w20 H, ms_l20 H, ms_t22 H, ms_r22 H, ms_w22 H, ms_l22 H, ms_t24 H, ms_r24 H, ms_w24 H, ms_l24 H, ms_t27 H, ms_r27 H, ms_w27 H, ms_l27 H, ms_t32 H, ms_r32 H, ms_w32 H, ms_l32 H, ms_b H, rm_T R, rm_P R, rm_U R, rm_B R, rm_H R, rm_K R, ho]
  · intro f M S C
    have H := C.1
    have R := C.2.1
    show BM_tickNow_58 (LM_tickNow_58 f) 1003 (nI t) (nI (rP ρ)) M = _
    simp (disch := omega) only [BM_tickNow_58, gd1, bs1, ↓reduceIte, d_nz, d_nn, or_true, true_or, or_false, false_or, decide_true, Sum.elim_inl, Sum.elim_inr, ↓l_m1, l_0, l_1, l_2, l_3, l_4, l_5, l_6, l_7, l_8, l_9, l_10, l_16, l_17, l_18, l_20, l_23, l_24, l_30, l_31, l_32, l_39, l_40, l_41, l_48, l_57, l_58, l_59, l_60, l_63, l_90, l_97, l_98, l_99, l_100, l_102, l_103, l_104, l_107, l_109, l_112, l_115, l_116, l_117, l_120, l_122, l_126, l_166, l_180, l_240, l_255, l_640, l_999, l_2656, l_3064, l_3704, l_3708, l_3712, l_3713, l_3893, l_155720, l_1000000, n_ltT, n_ltF, n_leT, n_leF, n_eqT, n_eqF, n_eqm, n_eqm', n_mltn, n_mlen, n_nltm, n_nlem, n_mltm, n_mlem, n_add, n_mul, n_sub, n_subm, n_cl, n_ofNat, n_div, n_mod, obM_si, rdI_si, wrI_si, lnI_si, grM_si', tgM_si', obM_sa, rdI_sa, wrI_sa, lnI_sa, grM_sa', tgM_sa', ms_ob H, ms_g1 H, ms_g5 H, ms_g6 H, ms_g8 H, ms_g9 H, ms_g11 H, ms_g12 H, ms_g15 H, ms_g16 H, ms_g18 H, ms_g19 H, ms_g20 H, ms_g22 H, ms_g24 H, ms_g27 H, ms_g32 H, ms_g21 H, ms_t1 H, ms_r1 H, ms_w1 H, ms_l1 H, ms_t5 H, ms_r5 H, ms_w5 H, ms_l5 H, ms_t6 H, ms_r6 H, ms_w6 H, ms_l6 H, ms_t8 H, ms_r8 H, ms_w8 H, ms_l8 H, ms_t9 H, ms_r9 H, ms_w9 H, ms_l9 H, ms_t11 H, ms_r11 H, ms_w11 H, ms_l11 H, ms_t12 H, ms_r12 H, ms_w12 H, ms_l12 H, ms_t15 H, ms_r15 H, ms_w15 H, ms_l15 H, ms_t16 H, ms_r16 H, ms_w16 H, ms_l16 H, ms_t18 H, ms_r18 H, ms_w18 H, ms_l18 H, ms_t19 H, ms_r19 H, ms_w19 H, ms_l19 H, ms_t20 H, ms_r20 H, ms_w20 H, ms_l20 H, ms_t22 H, ms_r22 H, ms_w22 H, ms_l22 H, ms_t24 H, ms_r24 H, ms_w24 H, ms_l24 H, ms_t27 H, ms_r27 H, ms_w27 H, ms_l27 H, ms_t32 H, ms_r32 H, ms_w32 H, ms_l32 H, ms_b H, rm_T R, rm_P R, rm_U R, rm_B R, rm_H R, rm_K R]
theorem mTick (C : RC M ρ S) (V : Inv ρ β S) (ht : t < rT ρ) : ∃ M', fM_tickNow 1003 (nI t) M = some M' ∧ RF M M' ∧ RC M' ρ (aTick ρ t S) := by
  obtain ⟨M1, e1, F1, C1, V1⟩ := mSend C V ht
  obtain ⟨M2, e2, F2, C2, V2⟩ := mQ1 C1 V1 ht
  obtain ⟨M3, e3, F3, C3, V3⟩ := mQ2 C2 V2 ht
  have H := C.1
  refine ⟨M3, ?_, RF_tr F1 (RF_tr F2 F3), C3⟩
  simp only [fM_tickNow, ↓l_m1, l_0, l_1, l_2, l_3, l_4, l_5, l_6, l_7, l_8, l_9, l_10, l_16, l_17, l_18, l_20, l_23, l_24, l_30, l_31, l_32, l_39, l_40, l_41, l_48, l_57, l_58, l_59, l_60, l_63, l_90, l_97, l_98, l_99, l_100, l_102, l_103, l_104, l_107, l_109, l_112, l_115, l_116, l_117, l_120, l_122, l_126, l_166, l_180, l_240, l_255, l_640, l_999, l_2656, l_3064, l_3704, l_3708, l_3712, l_3713, l_3893, l_155720, l_1000000, ms_ob H, gd1, e1, bs1, e2, e3]
theorem mAband (C : RC M ρ S) (V : Inv ρ β S) (hp : p < 16) : ∃ M', fM_leaveQueue 1003 (nI p) M = some M' ∧ RF M (siM M' 1011 (166 * p) (nI 3)) ∧ RC (siM M' 1011 (166 * p) (nI 3)) ρ (oAband p S) ∧ M'.2 = M.2 := by
  obtain ⟨M1, e1, F1, C1⟩ := mLeave C V hp
  have W1 := Wd_leave (p := p) (Wd_of C.2.2.1 V)
  have C2 := RC_si C1 (RW_kd (v := 3) W1 C1.2.2.2 hp)
  rw [(leave_pr p S).1] at C2
  exact ⟨M1, e1, RF_tr F1 (RF_si _ _ _), C2, F1.1⟩
theorem mTurn (C : RC M ρ S) (V : Inv ρ β S) (ht : t < rT ρ) : ∃ M', fM_turnNow 1003 (nI t) M = some M' ∧ RF M M' ∧ RC M' ρ (aTurn ρ t S) := by
  have H := C.1
  have hR := ru_b C.2.2.1
  have W := Wd_of C.2.2.1 V
  have hv := (V.2.2.2.2.1 t (by omega)).1
  have hl := rv_lv C (t := t) (by omega)
  unfold aTurn
  by_cases h1 : lv S t = 1
  · rw [if_pos h1]
    rw [h1] at hl
    have C0 : RC (siM M 1011 (3704 + t) (nI 0)) ρ (oLv t 0 S) := RC_si C (RW_lv W C.2.2.2 (by omega))
    have V0 : Inv ρ β (oLv t 0 S) := inv_lv (by omega) V
    obtain ⟨M1, e1, F1, C1, V1⟩ := mSend C0 V0 ht
    have key : ∃ M', LM_turnNow_45 1000000 1003 (nI t) (nI 0) M1 = some M' ∧ RF M1 M' ∧ RC M' ρ (fr (aT1 ρ t) (rP ρ) (aHomes ρ t (oLv t 0 S))) ∧ Inv ρ β (fr (aT1 ρ t) (rP ρ) (aHomes ρ t (oLv t 0 S))) := by
      refine mLoop (L := fun f i M => LM_turnNow_45 f 1003 (nI t) (nI i) M) (g := aT1 ρ t) (n := rP ρ) C1 V1 (by omega) ?_ ?_
      · intro f i M S hi C V
        have hi16 : i < 16 := by omega
        have H := C.1
        have R := C.2.1
        have VA := inv_aT1 (t := t) hi16 V
        have ho := mIsOf C V hi16 ht
        have u1 := mUsed C V hi16
        have hu := usd_le C.2.2.1 V hi16
        revert VA
        unfold aT1
        show (_ → ∃ M', BM_turnNow_45 (LM_turnNow_45 f) 1003 (nI t) (nI i) M = _ ∧ _)
        by_cases h1 : (kd S i = 1 ∨ kd S i = 2) ∧ ow S i = t
        · rw [if_pos h1] at ho
          rw [if_pos h1]
          by_cases h3 : usd ρ S i = 0
          · rw [if_pos h3]
            intro VA
            obtain ⟨M', e, F, C'⟩ := mEmpty C V hi16
            refine ⟨M', ?_, F, C', VA⟩
            rw [h3] at u1
            simp (disch := omega) only [BM_turnNow_45, BM_turnNow_101, gd1, bs1, ↓reduceIte, d_nz, d_nn, or_true, true_or, or_false, false_or, decide_true, Sum.elim_inl, Sum.elim_inr, ↓l_m1, l_0, l_1, l_2, l_3, l_4, l_5, l_6, l_7, l_8, l_9, l_10, l_16, l_17, l_18, l_20, l_23, l_24, l_30, l_31, l_32, l_39, l_40, l_41, l_48, l_57, l_58, l_59, l_60, l_63, l_90, l_97, l_98, l_99, l_100, l_102, l_103, l_104, l_107, l_109, l_112, l_115, l_116, l_117, l_120, l_122, l_126, l_166, l_180, l_240, l_255, l_640, l_999, l_2656, l_3064, l_3704, l_3708, l_3712, l_3713, l_3893, l_155720, l_1000000, n_ltT, n_ltF, n_leT, n_leF, n_eqT, n_eqF, n_eqm, n_eqm', n_mltn, n_mlen, n_nltm, n_nlem, n_mltm, n_mlem, n_add, n_mul, n_sub, n_subm, n_cl, n_ofNat, n_div, n_mod, obM_si, rdI_si, wrI_si, lnI_si, grM_si', tgM_si', obM_sa, rdI_sa, wrI_sa, lnI_sa, grM_sa', tgM_sa', ms_ob H, ms_g1 H, ms_g5 H, ms_g6 H, ms_g8 H, ms_g9 H, ms_g11 H, ms_g12 H, ms_g15 H, ms_g16 H, ms_g18 H, ms_g19 H, ms_g20 H, ms_g22 H, ms_g24 H, ms_g27 H, ms_g32 H, ms_g21 H, ms_t1 H, ms_r1 H, ms_w1 H, ms_l1 H, ms_t5 H, ms_r5 H, ms_w5 H, ms_l5 H, ms_t6 H, ms_r6 H, ms_w6 H, ms_l6 H, ms_t8 H, ms_r8 H, ms_w8 H, ms_l8 H, ms_t9 H, ms_r9 H, ms_w9 H, ms_l9 H, ms_t11 H, ms_r11 H, ms_w11 H, ms_l11 H, ms_t12 H, ms_r12 H, ms_w12 H, ms_l12 H, ms_t15 H, ms_r15 H, ms_w15 H, ms_l15 H, ms_t16 H, ms_r16 H, ms_w16 H, ms_l16 H, ms_t18 H, ms_r18 H, ms_w18 H, ms_l18 H, ms_t19 H, ms_r19 H, ms_w19 H, ms_l19 H, ms_t20 H, ms_r20 H, ms_w20 H, ms_l20 H, ms_t22 H, ms_r22 H, ms_w22 H, ms_l22 H, ms_t24 H, ms_r24 H, ms_w24 H, ms_l24 H, ms_t27 H, ms_r27 H, ms_w27 H, ms_l27 H, ms_t32 H, ms_r32 H, ms_w32 H, ms_l32 H, ms_b H, rm_T R, rm_P R, rm_U R, rm_B R, rm_H R, rm_K R, ho, u1, e]
          · rw [if_neg h3]
            intro VA
            obtain ⟨M', e, F, C', s1⟩ := mAband C V hi16
            refine ⟨_, ?_, F, C', VA⟩
            simp (disch := omega) only [BM_turnNow_45, BM_turnNow_80, BM_turnNow_101, fM_set, gd1, bs1, ↓reduceIte, d_nz, d_nn, or_true, true_or, or_false, false_or, decide_true, Sum.elim_inl, Sum.elim_inr, ↓l_m1, l_0, l_1, l_2, l_3, l_4, l_5, l_6, l_7, l_8, l_9, l_10, l_16, l_17, l_18, l_20, l_23, l_24, l_30, l_31, l_32, l_39, l_40, l_41, l_48, l_57, l_58, l_59, l_60, l_63, l_90, l_97, l_98, l_99, l_100, l_102, l_103, l_104, l_107, l_109, l_112, l_115, l_116, l_117, l_120, l_122, l_126, l_166, l_180, l_240, l_255, l_640, l_999, l_2656, l_3064, l_3704, l_3708, l_3712, l_3713, l_3893, l_155720, l_1000000, n_ltT, n_ltF, n_leT, n_leF, n_eqT, n_eqF, n_eqm, n_eqm', n_mltn, n_mlen, n_nltm, n_nlem, n_mltm, n_mlem, n_add, n_mul, n_sub, n_subm, n_cl, n_ofNat, n_div, n_mod, obM_si, rdI_si, wrI_si, lnI_si, grM_si', tgM_si', obM_sa, rdI_sa, wrI_sa, lnI_sa, grM_sa', tgM_sa', obM_2 s1, rdI_2 s1, wrI_2 s1, lnI_2 s1, grM_2 s1, tgM_2 s1, ms_ob H, ms_g1 H, ms_g5 H, ms_g6 H, ms_g8 H, ms_g9 H, ms_g11 H, ms_g12 H, ms_g15 H, ms_g16 H, ms_g18 H, ms_g19 H, ms_g20 H, ms_g22 H, ms_g24 H, ms_g27 H, ms_g32 H, ms_g21 H, ms_t1 H, ms_r1 H, ms_w1 H, ms_l1 H, ms_t5 H, ms_r5 H, ms_w5 H, ms_l5 H, ms_t6 H, ms_r6 H, ms_w6 H, ms_l6 H, ms_t8 H, ms_r8 H, ms_w8 H, ms_l8 H, ms_t9 H, ms_r9 H, ms_w9 H, ms_l9 H, ms_t11 H, ms_r11 H, ms_w11 H, ms_l11 H, ms_t12 H, ms_r12 H, ms_w12 H, ms_l12 H, ms_t15 H, ms_r15 H, ms_w15 H, ms_l15 H, ms_t16 H, ms_r16 H, ms_w16 H, ms_l16 H, ms_t18 H, ms_r18 H, ms_w18 H, ms_l18 H, ms_t19 H, ms_r19 H, ms_w19 H, ms_l19 H, ms_t20 H, ms_r20 H, ms_w20 H, ms_l20 H, ms_t22 H, ms_r22 H, ms_w22 H, ms_l22 H, ms_t24 H, ms_r24 H, ms_w24 H, ms_l24 H, ms_t27 H, ms_r27 H, ms_w27 H, ms_l27 H, ms_t32 H, ms_r32 H, ms_w32 H, ms_l32 H, ms_b H, rm_T R, rm_P R, rm_U R, rm_B R, rm_H R, rm_K R, Nat.add_zero, ho, u1, e]
        · rw [if_neg h1] at ho
          rw [if_neg h1]
          intro VA
          refine ⟨M, ?_, RF_refl _, C, V⟩
          simp (disch := omega) only [BM_turnNow_45, BM_turnNow_80, BM_turnNow_101, gd1, bs1, ↓reduceIte, d_nz, d_nn, or_true, true_or, or_false, false_or, decide_true, Sum.elim_inl, Sum.elim_inr, ↓l_m1, l_0, l_1, l_2, l_3, l_4, l_5, l_6, l_7, l_8, l_9, l_10, l_16, l_17, l_18, l_20, l_23, l_24, l_30, l_31, l_32, l_39, l_40, l_41, l_48, l_57, l_58, l_59, l_60, l_63, l_90, l_97, l_98, l_99, l_100, l_102, l_103, l_104, l_107, l_109, l_112, l_115, l_116, l_117, l_120, l_122, l_126, l_166, l_180, l_240, l_255, l_640, l_999, l_2656, l_3064, l_3704, l_3708, l_3712, l_3713, l_3893, l_155720, l_1000000, n_ltT, n_ltF, n_leT, n_leF, n_eqT, n_eqF, n_eqm, n_eqm', n_mltn, n_mlen, n_nltm, n_nlem, n_mltm, n_mlem, n_add, n_mul, n_sub, n_subm, n_cl, n_ofNat, n_div, n_mod, obM_si, rdI_si, wrI_si, lnI_si, grM_si', tgM_si', obM_sa, rdI_sa, wrI_sa, lnI_sa, grM_sa', tgM_sa', ms_ob H, ms_g1 H, ms_g5 H, ms_g6 H, ms_g8 H, ms_g9 H, ms_g11 H, ms_g12 H, ms_g15 H, ms_g16 H, ms_g18 H, ms_g19 H, ms_g20 H, ms_g22 H, ms_g24 H, ms_g27 H, ms_g32 H, ms_g21 H, ms_t1 H, ms_r1 H, ms_w1 H, ms_l1 H, ms_t5 H, ms_r5 H, ms_w5 H, ms_l5 H, ms_t6 H, ms_r6 H, ms_w6 H, ms_l6 H, ms_t8 H, ms_r8 H, ms_w8 H, ms_l8 H, ms_t9 H, ms_r9 H, ms_w9 H, ms_l9 H, ms_t11 H, ms_r11 H, ms_w11 H, ms_l11 H, ms_t12 H, ms_r12 H, ms_w12 H, ms_l12 H, ms_t15 H, ms_r15 H, ms_w15 H, ms_l15 H, ms_t16 H, ms_r16 H, ms_w16 H, ms_l16 H, ms_t18 H, ms_r18 H, ms_w18 H, ms_l18 H, ms_t19 H, ms_r19 H, ms_w19 H, ms_l19 H, ms_t20 H, ms_r20 H, ms_w20 H, ms_l20 H, ms_t22 H, ms_r22 H, ms_w22 H, ms_l22 H, ms_t24 H, ms_r24 H, ms_w24 H, ms_l24 H, ms_t27 H, ms_r27 H, ms_w27 H, ms_l27 H, ms_t32 H, ms_r32 H, ms_w32 H, ms_l32 H, ms_b H, rm_T R, rm_P R, rm_U R, rm_B R, rm_H R, rm_K R, ho]
      · intro f M S C
        have H := C.1
        have R := C.2.1
        show BM_turnNow_45 (LM_turnNow_45 f) 1003 (nI t) (nI (rP ρ)) M = _
        simp (disch := omega) only [BM_turnNow_45, gd1, bs1, ↓reduceIte, d_nz, d_nn, or_true, true_or, or_false, false_or, decide_true, Sum.elim_inl, Sum.elim_inr, ↓l_m1, l_0, l_1, l_2, l_3, l_4, l_5, l_6, l_7, l_8, l_9, l_10, l_16, l_17, l_18, l_20, l_23, l_24, l_30, l_31, l_32, l_39, l_40, l_41, l_48, l_57, l_58, l_59, l_60, l_63, l_90, l_97, l_98, l_99, l_100, l_102, l_103, l_104, l_107, l_109, l_112, l_115, l_116, l_117, l_120, l_122, l_126, l_166, l_180, l_240, l_255, l_640, l_999, l_2656, l_3064, l_3704, l_3708, l_3712, l_3713, l_3893, l_155720, l_1000000, n_ltT, n_ltF, n_leT, n_leF, n_eqT, n_eqF, n_eqm, n_eqm', n_mltn, n_mlen, n_nltm, n_nlem, n_mltm, n_mlem, n_add, n_mul, n_sub, n_subm, n_cl, n_ofNat, n_div, n_mod, obM_si, rdI_si, wrI_si, lnI_si, grM_si', tgM_si', obM_sa, rdI_sa, wrI_sa, lnI_sa, grM_sa', tgM_sa', ms_ob H, ms_g1 H, ms_g5 H, ms_g6 H, ms_g8 H, ms_g9 H, ms_g11 H, ms_g12 H, ms_g15 H, ms_g16 H, ms_g18 H, ms_g19 H, ms_g20 H, ms_g22 H, ms_g24 H, ms_g27 H, ms_g32 H, ms_g21 H, ms_t1 H, ms_r1 H, ms_w1 H, ms_l1 H, ms_t5 H, ms_r5 H, ms_w5 H, ms_l5 H, ms_t6 H, ms_r6 H, ms_w6 H, ms_l6 H, ms_t8 H, ms_r8 H, ms_w8 H, ms_l8 H, ms_t9 H, ms_r9 H, ms_w9 H, ms_l9 H, ms_t11 H, ms_r11 H, ms_w11 H, ms_l11 H, ms_t12 H, ms_r12 H, ms_w12 H, ms_l12 H, ms_t15 H, ms_r15 H, ms_w15 H, ms_l15 H, ms_t16 H, ms_r16 H, ms_w16 H, ms_l16 H, ms_t18 H, ms_r18 H, ms_w18 H, ms_l18 H, ms_t19 H, ms_r19 H, ms_w19 H, ms_l19 H, ms_t20 H, ms_r20 H, ms_w20 H, ms_l20 H, ms_t22 H, ms_r22 H, ms_w22 H, ms_l22 H, ms_t24 H, ms_r24 H, ms_w24 H, ms_l24 H, ms_t27 H, ms_r27 H, ms_w27 H, ms_l27 H, ms_t32 H, ms_r32 H, ms_w32 H, ms_l32 H, ms_b H, rm_T R, rm_P R, rm_U R, rm_B R, rm_H R, rm_K R]
    obtain ⟨M2, e2, F2, C2, V2⟩ := key
    have eq : oLv t 0 (aTurns ρ t S) = fr (aT1 ρ t) (rP ρ) (aHomes ρ t (oLv t 0 S)) := by
      show wlv (aTurns ρ t S) (ud (lv (aTurns ρ t S)) t 0) = aTurns ρ t (wlv S (ud (lv S) t 0))
      rw [aTurns_wlv, aTurns_lv]
    rw [eq]
    refine ⟨M2, ?_, RF_tr (RF_si _ _ _) (RF_tr F1 F2), C2⟩
    simp (disch := omega) only [fM_turnNow, gd1, bs1, ↓reduceIte, d_nz, d_nn, or_true, true_or, or_false, false_or, decide_true, Sum.elim_inl, Sum.elim_inr, ↓l_m1, l_0, l_1, l_2, l_3, l_4, l_5, l_6, l_7, l_8, l_9, l_10, l_16, l_17, l_18, l_20, l_23, l_24, l_30, l_31, l_32, l_39, l_40, l_41, l_48, l_57, l_58, l_59, l_60, l_63, l_90, l_97, l_98, l_99, l_100, l_102, l_103, l_104, l_107, l_109, l_112, l_115, l_116, l_117, l_120, l_122, l_126, l_166, l_180, l_240, l_255, l_640, l_999, l_2656, l_3064, l_3704, l_3708, l_3712, l_3713, l_3893, l_155720, l_1000000, n_ltT, n_ltF, n_leT, n_leF, n_eqT, n_eqF, n_eqm, n_eqm', n_mltn, n_mlen, n_nltm, n_nlem, n_mltm, n_mlem, n_add, n_mul, n_sub, n_subm, n_cl, n_ofNat, n_div, n_mod, obM_si, rdI_si, wrI_si, lnI_si, grM_si', tgM_si', obM_sa, rdI_sa, wrI_sa, lnI_sa, grM_sa', tgM_sa', ms_ob H, ms_g1 H, ms_g5 H, ms_g6 H, ms_g8 H, ms_g9 H, ms_g11 H, ms_g12 H, ms_g15 H, ms_g16 H, ms_g18 H, ms_g19 H, ms_g20 H, ms_g22 H, ms_g24 H, ms_g27 H, ms_g32 H, ms_g21 H, ms_t1 H, ms_r1 H, ms_w1 H, ms_l1 H, ms_t5 H, ms_r5 H, ms_w5 H, ms_l5 H, ms_t6 H, ms_r6 H, ms_w6 H, ms_l6 H, ms_t8 H, ms_r8 H, ms_w8 H, ms_l8 H, ms_t9 H, ms_r9 H, ms_w9 H, ms_l9 H, ms_t11 H, ms_r11 H, ms_w11 H, ms_l11 H, ms_t12 H, ms_r12 H, ms_w12 H, ms_l12 H, ms_t15 H, ms_r15 H, ms_w15 H, ms_l15 H, ms_t16 H, ms_r16 H, ms_w16 H, ms_l16 H, ms_t18 H, ms_r18 H, ms_w18 H, ms_l18 H, ms_t19 H, ms_r19 H, ms_w19 H, ms_l19 H, ms_t20 H, ms_r20 H, ms_w20 H, ms_l20 H, ms_t22 H, ms_r22 H, ms_w22 H, ms_l22 H, ms_t24 H, ms_r24 H, ms_w24 H, ms_l24 H, ms_t27 H, ms_r27 H, ms_w27 H, ms_l27 H, ms_t32 H, ms_r32 H, ms_w32 H, ms_l32 H, ms_b H, hl, giM_ud, ud_s, Nat.sub_self, e1, e2]
  · rw [if_neg h1]
    have h0 : lv S t = 0 := by omega
    rw [h0] at hl
    refine ⟨_, ?_, RF_si M (3704 + t) (nI 1), RC_si C (RW_lv W C.2.2.2 (by omega))⟩
    simp (disch := omega) only [fM_turnNow, gd1, bs1, ↓reduceIte, d_nz, d_nn, or_true, true_or, or_false, false_or, decide_true, Sum.elim_inl, Sum.elim_inr, ↓l_m1, l_0, l_1, l_2, l_3, l_4, l_5, l_6, l_7, l_8, l_9, l_10, l_16, l_17, l_18, l_20, l_23, l_24, l_30, l_31, l_32, l_39, l_40, l_41, l_48, l_57, l_58, l_59, l_60, l_63, l_90, l_97, l_98, l_99, l_100, l_102, l_103, l_104, l_107, l_109, l_112, l_115, l_116, l_117, l_120, l_122, l_126, l_166, l_180, l_240, l_255, l_640, l_999, l_2656, l_3064, l_3704, l_3708, l_3712, l_3713, l_3893, l_155720, l_1000000, n_ltT, n_ltF, n_leT, n_leF, n_eqT, n_eqF, n_eqm, n_eqm', n_mltn, n_mlen, n_nltm, n_nlem, n_mltm, n_mlem, n_add, n_mul, n_sub, n_subm, n_cl, n_ofNat, n_div, n_mod, obM_si, rdI_si, wrI_si, lnI_si, grM_si', tgM_si', obM_sa, rdI_sa, wrI_sa, lnI_sa, grM_sa', tgM_sa', ms_ob H, ms_g1 H, ms_g5 H, ms_g6 H, ms_g8 H, ms_g9 H, ms_g11 H, ms_g12 H, ms_g15 H, ms_g16 H, ms_g18 H, ms_g19 H, ms_g20 H, ms_g22 H, ms_g24 H, ms_g27 H, ms_g32 H, ms_g21 H, ms_t1 H, ms_r1 H, ms_w1 H, ms_l1 H, ms_t5 H, ms_r5 H, ms_w5 H, ms_l5 H, ms_t6 H, ms_r6 H, ms_w6 H, ms_l6 H, ms_t8 H, ms_r8 H, ms_w8 H, ms_l8 H, ms_t9 H, ms_r9 H, ms_w9 H, ms_l9 H, ms_t11 H, ms_r11 H, ms_w11 H, ms_l11 H, ms_t12 H, ms_r12 H, ms_w12 H, ms_l12 H, ms_t15 H, ms_r15 H, ms_w15 H, ms_l15 H, ms_t16 H, ms_r16 H, ms_w16 H, ms_l16 H, ms_t18 H, ms_r18 H, ms_w18 H, ms_l18 H, ms_t19 H, ms_r19 H, ms_w19 H, ms_l19 H, ms_t20 H, ms_r20 H, ms_w20 H, ms_l20 H, ms_t22 H, ms_r22 H, ms_w22 H, ms_l22 H, ms_t24 H, ms_r24 H, ms_w24 H, ms_l24 H, ms_t27 H, ms_r27 H, ms_w27 H, ms_l27 H, ms_t32 H, ms_r32 H, ms_w32 H, ms_l32 H, ms_b H, hl, giM_ud, ud_s, Nat.sub_zero]
end MA
