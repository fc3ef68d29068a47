section MH
variable {M M' : Mem} {ρ : Rul} {β : Nat} {S : HSt} {p t b l q c w : Nat}
theorem oPop_kd (q : Nat) : ∀ (xs : List Nat) (S : HSt), ∀ p, p ∈ xs → kd (oPop q xs S) p = 2
  | [], _, _, h => by cases h
  | x :: xs, S, p, h => by
    show kd (oPop q xs (oFull x q S)) p = 2
    by_cases h1 : p ∈ xs
    · exact oPop_kd q xs _ p h1
    · rw [(oPop_pr q xs _).2.2.2.2.2.2.2 p h1]
      rcases List.mem_cons.mp h with rfl | h
      · exact ud_s _ _ _
      · exact absurd h h1
/-- the state while a page is being filled by the reference -/
def fK (p : Nat) (S : HSt) (k : Nat) : HSt := whd (wbl S (ud (bl S) (3 * p) (List.range k))) (ud (hd S) p (fun b => if b < k then 0 else hd S p b))
theorem fK_0 (h : bl S (3 * p) = []) : fK p S 0 = S := by
  have e1 : ud (bl S) (3 * p) (List.range 0) = bl S := by
    funext x
    by_cases hx : x = 3 * p
    · rw [hx, ud_s, h]; rfl
    · rw [ud_n _ _ hx]
  have e2 : ud (hd S) p (fun b => if b < 0 then 0 else hd S p b) = hd S := by
    funext x
    by_cases hx : x = p
    · rw [hx, ud_s]; funext y; exact if_neg (Nat.not_lt_zero _)
    · rw [ud_n _ _ hx]
  unfold fK
  rw [e1, e2]
  rfl
theorem mFillL (v1 v6 : Int32) (W : Wd S) (hp : p < 16) (hc : c < rK ρ) {n : Nat} (hn : n = rU ρ / rZ ρ c) (hn40 : n ≤ 40) : ∀ (d f k : Nat) (M : Mem), RC M ρ (fK p S k) → k + d = n → d < f → ∃ M', LM_getOnce_125 f 1003 v1 (nI c) (nI p) v6 (nI k) M = some M' ∧ RF M M' ∧ RC M' ρ (fK p S n) := by
  intro d
  induction d with
  | zero =>
    intro f k M C hk hf
    obtain ⟨g, rfl⟩ : ∃ g, f = g + 1 := ⟨f - 1, by omega⟩
    have H := C.1
    have R := C.2.1
    have hR := ru_b C.2.2.1
    have hz := C.2.2.1.2.1 c hc
    have hzz := rm_Z R hc
    obtain rfl : k = n := by omega
    refine ⟨M, ?_, RF_refl M, C⟩
    show BM_getOnce_125 (LM_getOnce_125 g) 1003 v1 (nI c) (nI p) v6 (nI k) M = _
    simp (disch := omega) only [BM_getOnce_125, not_false_eq_true, gd1, bs1, ↓reduceIte, d_nz, d_nn, or_true, true_or, or_false, false_or, decide_true, Sum.elim_inl, Sum.elim_inr, ↓l_m1, l_0, l_1, l_2, l_3, l_4, l_5, l_6, l_7, l_8, l_9, l_10, l_16, l_17, l_18, l_20, l_23, l_24, l_30, l_31, l_32, l_39, l_40, l_41, l_48, l_57, l_58, l_59, l_60, l_63, l_90, l_97, l_98, l_99, l_100, l_102, l_103, l_104, l_107, l_109, l_112, l_115, l_116, l_117, l_120, l_122, l_126, l_166, l_180, l_240, l_255, l_640, l_999, l_2656, l_3064, l_3704, l_3708, l_3712, l_3713, l_3893, l_155720, l_1000000, n_ltT, n_ltF, n_leT, n_leF, n_eqT, n_eqF, n_eqm, n_eqm', n_mltn, n_mlen, n_nltm, n_nlem, n_mltm, n_mlem, n_add, n_mul, n_sub, n_subm, n_cl, n_ofNat, n_div, n_mod, obM_si, rdI_si, wrI_si, lnI_si, grM_si', tgM_si', obM_sa, rdI_sa, wrI_sa, lnI_sa, grM_sa', tgM_sa', ms_ob H, ms_g1 H, ms_g5 H, ms_g6 H, ms_g8 H, ms_g9 H, ms_g11 H, ms_g12 H, ms_g15 H, ms_g16 H, ms_g18 H, ms_g19 H, ms_g20 H, ms_g22 H, ms_g24 H, ms_g27 H, ms_g32 H, ms_g21 H, ms_t1 H, ms_r1 H, ms_w1 H, ms_l1 H, ms_t5 H, ms_r5 H, ms_w5 H, ms_l5 H, ms_t6 H, ms_r6 H, ms_w6 H, ms_l6 H, ms_t8 H, ms_r8 H, ms_w8 H, ms_l8 H, ms_t9 H, ms_r9 H, ms_w9 H, ms_l9 H, ms_t11 H, ms_r11 H, ms_w11 H, ms_l11 H, ms_t12 H, ms_r12 H, ms_w12 H, ms_l12 H, ms_t15 H, ms_r15 H, ms_w15 H, ms_l15 H, ms_t16 H, ms_r16 H, ms_w16 H, ms_l16 H, ms_t18 H, ms_r18 H, ms_w18 H, ms_l18 H, ms_t19 H, ms_r19 H, ms_w19 H, ms_l19 H, ms_t20 H, ms_r20 H, ms_w20 H, ms_l20 H, ms_t22 H, ms_r22 H, ms_w22 H, ms_l22 H, ms_t24 H, ms_r24 H, ms_w24 H, ms_l24 H, ms_t27 H, ms_r27 H, ms_w27 H, ms_l27 H, ms_t32 H, ms_r32 H, ms_w32 H, ms_l32 H, ms_b H, rm_T R, rm_P R, rm_U R, rm_B R, rm_H R, rm_K R, hzz]
  | succ d ih =>
    intro f k M C hk hf
    obtain ⟨g, rfl⟩ : ∃ g, f = g + 1 := ⟨f - 1, by omega⟩
    have H := C.1
    have R := C.2.1
    have hR := ru_b C.2.2.1
    have hz := C.2.2.1.2.1 c hc
    have hzz := rm_Z R hc
    have a0 : la (3 * p) = 166 * p + 3 := la_3 (w := 0) hp (by omega)
    have c40 : cpl (3 * p) = 40 := cpl_3 (w := 0) hp (by omega)
    have r0 := rv_0 C hp
    have eb : bl (fK p S k) (3 * p) = List.range k := ud_s _ _ _
    rw [eb] at r0
    have Wk : Wd (fK p S k) := Wd_row W (by rw [c40, List.length_range]; omega)
    obtain ⟨N', e1, R1, F1⟩ := addLast_ok (v := k) H r0 (by rw [List.length_range]; omega)
    rw [List.length_range] at F1
    have C1 : RC (saM M 1011 N') ρ (wbl (fK p S k) (ud (bl (fK p S k)) (3 * p) (List.range k ++ [k]))) := RC_sa C (RW_row Wk C.2.2.2 (by omega) (fun i hi => F1 i (by rw [a0, c40] at hi; omega)) (by rw [a0]; exact R1))
    have W1 : Wd (wbl (fK p S k) (ud (bl (fK p S k)) (3 * p) (List.range k ++ [k]))) := Wd_row Wk (by rw [c40, List.length_append, List.length_range, List.length_singleton]; omega)
    have C2 := RC_si C1 (RW_hd (v := 0) (b := k) W1 C1.2.2.2 hp (by omega))
    have eq : oHd p k 0 (wbl (fK p S k) (ud (bl (fK p S k)) (3 * p) (List.range k ++ [k]))) = fK p S (k + 1) := by
      have e2 : ud (bl (fK p S k)) (3 * p) (List.range k ++ [k]) = ud (bl S) (3 * p) (List.range (k + 1)) := by
        show ud (ud (bl S) (3 * p) (List.range k)) (3 * p) (List.range k ++ [k]) = _
        rw [ud_ud, List.range_succ]
      have e3 : ud (hd (fK p S k)) p (ud (hd (fK p S k) p) k 0) = ud (hd S) p (fun b => if b < k + 1 then 0 else hd S p b) := by
        show ud (ud (hd S) p (fun b => if b < k then 0 else hd S p b)) p (ud (ud (hd S) p (fun b => if b < k then 0 else hd S p b) p) k 0) = _
        rw [ud_ud, ud_s]
        congr 1
        funext b
        by_cases hb : b = k
        · rw [hb, ud_s, if_pos (by omega)]
        · rw [ud_n _ _ hb]
          by_cases hb2 : b < k
          · rw [if_pos hb2, if_pos (by omega)]
          · rw [if_neg hb2, if_neg (by omega)]
      show whd (wbl (fK p S k) (ud (bl (fK p S k)) (3 * p) (List.range k ++ [k]))) (ud (hd (fK p S k)) p (ud (hd (fK p S k) p) k 0)) = _
      rw [e2, e3]
      rfl
    rw [eq] at C2
    obtain ⟨M3, e3, F3, C3⟩ := ih g (k + 1) _ C2 (by omega) (by omega)
    have ea : 166 * p + (126 + k) = 166 * p + 126 + k := by omega
    refine ⟨M3, ?_, RF_tr (RF_sa M N') (RF_tr (RF_si _ _ _) F3), C3⟩
    have hlt : k < rU ρ / rZ ρ c := by omega
    have hdl : rU ρ / rZ ρ c ≤ 40 := by omega
    show BM_getOnce_125 (LM_getOnce_125 g) 1003 v1 (nI c) (nI p) v6 (nI k) M = _
    simp (disch := omega) only [BM_getOnce_125, fM_listAt, fM_set, not_false_eq_true, gd1, bs1, ↓reduceIte, d_nz, d_nn, or_true, true_or, or_false, false_or, decide_true, Sum.elim_inl, Sum.elim_inr, ↓l_m1, l_0, l_1, l_2, l_3, l_4, l_5, l_6, l_7, l_8, l_9, l_10, l_16, l_17, l_18, l_20, l_23, l_24, l_30, l_31, l_32, l_39, l_40, l_41, l_48, l_57, l_58, l_59, l_60, l_63, l_90, l_97, l_98, l_99, l_100, l_102, l_103, l_104, l_107, l_109, l_112, l_115, l_116, l_117, l_120, l_122, l_126, l_166, l_180, l_240, l_255, l_640, l_999, l_2656, l_3064, l_3704, l_3708, l_3712, l_3713, l_3893, l_155720, l_1000000, n_ltT, n_ltF, n_leT, n_leF, n_eqT, n_eqF, n_eqm, n_eqm', n_mltn, n_mlen, n_nltm, n_nlem, n_mltm, n_mlem, n_add, n_mul, n_sub, n_subm, n_cl, n_ofNat, n_div, n_mod, obM_si, rdI_si, wrI_si, lnI_si, grM_si', tgM_si', obM_sa, rdI_sa, wrI_sa, lnI_sa, grM_sa', tgM_sa', ms_ob H, ms_g1 H, ms_g5 H, ms_g6 H, ms_g8 H, ms_g9 H, ms_g11 H, ms_g12 H, ms_g15 H, ms_g16 H, ms_g18 H, ms_g19 H, ms_g20 H, ms_g22 H, ms_g24 H, ms_g27 H, ms_g32 H, ms_g21 H, ms_t1 H, ms_r1 H, ms_w1 H, ms_l1 H, ms_t5 H, ms_r5 H, ms_w5 H, ms_l5 H, ms_t6 H, ms_r6 H, ms_w6 H, ms_l6 H, ms_t8 H, ms_r8 H, ms_w8 H, ms_l8 H, ms_t9 H, ms_r9 H, ms_w9 H, ms_l9 H, ms_t11 H, ms_r11 H, ms_w11 H, ms_l11 H, ms_t12 H, ms_r12 H, ms_w12 H, ms_l12 H, ms_t15 H, ms_r15 H, ms_w15 H, ms_l15 H, ms_t16 H, ms_r16 H, ms_w16 H, ms_l16 H, ms_t18 H, ms_r18 H, ms_w18 H, ms_l18 H, ms_t19 H, ms_r19 H, ms_w19 H, ms_l19 H, ms_t20 H, ms_r20 H, ms_w20 H, ms_l20 H, ms_t22 H, ms_r22 H, ms_w22 H, ms_l22 H, ms_t24 H, ms_r24 H, ms_w24 H, ms_l24 H, ms_t27 H, ms_r27 H, ms_w27 H, ms_l27 H, ms_t32 H, ms_r32 H, ms_w32 H, ms_l32 H, ms_b H, rm_T R, rm_P R, rm_U R, rm_B R, rm_H R, rm_K R, hzz, Nat.mul_zero, Nat.add_zero, e1, ea, e3]
theorem m173 {v6 : Nat} (C : RC M ρ S) (W : Wd S) (hp : p < 16) (ht : t < rT ρ) (hcl : cl S p < rK ρ) (hl : (qu S (6 * t + cl S p)).length < 16) (V : Inv ρ β (oAdopt t p S)) {r : List Nat} (e : bl (oColl p (oAdopt t p S)) (3 * p) = b :: r) (hv : v6 ≤ 1) : ∃ M', BM_getOnce_173 1003 (nI t) (nI p) (nI v6) M = some (nI (100 * p + b), M') ∧ RF M M' ∧ RC M' ρ (oTake p (oColl p (oAdopt t p S))) ∧ giM M' 1003 17 = nI (5 - v6) := by
  have H := C.1
  have hR := ru_b C.2.2.1
  have C1 : RC (siM M 1011 (166 * p + 1) (nI t)) ρ (wow S (ud (ow S) p t)) := RC_si C (RW_ow W C.2.2.2 hp)
  have eo : ow (wow S (ud (ow S) p t)) p = t := ud_s _ _ _
  have ec : cl (wow S (ud (ow S) p t)) p = cl S p := rfl
  have equ : qu (wow S (ud (ow S) p t)) = qu S := rfl
  obtain ⟨M2, e2, F2, C2⟩ := mEnq (p := p) C1 W hp (by rw [eo, ec]; omega) (by rw [eo, ec, equ]; exact hl)
  have C2 : RC M2 ρ (oAdopt t p S) := C2
  obtain ⟨M3, e3, F3, C3⟩ := mColl C2 V hp
  have VC := inv_coll hp V (show ud (kd S) p 1 p ≠ 2 by rw [ud_s]; omega)
  have hb40 : b < 40 := by
    have h1 := (in_cut VC.2.1 hp (Or.inl rfl) (b := b) (by rw [e]; exact List.mem_cons_self)).1
    have h2 := cut_le C.2.2.1 VC.1 hp
    omega
  have s2 := F2.1
  have s3 : M3.2 = M.2 := F3.1.trans s2
  rcases (show v6 = 0 ∨ v6 = 1 by omega) with rfl | rfl
  · obtain ⟨M4, e4, F4, C4, h17⟩ := mTakeB (how := 5) C3 (Wd_of C.2.2.1 VC) hp e hb40
    refine ⟨M4, ?_, RF_tr (RF_si _ _ _) (RF_tr F2 (RF_tr F3 F4)), C4, h17⟩
    simp (disch := omega) only [BM_getOnce_173, BM_getOnce_207, fM_set, gd1, bs1, ↓reduceIte, d_nz, d_nn, or_true, true_or, or_false, false_or, decide_true, Sum.elim_inl, Sum.elim_inr, ↓l_m1, l_0, l_1, l_2, l_3, l_4, l_5, l_6, l_7, l_8, l_9, l_10, l_16, l_17, l_18, l_20, l_23, l_24, l_30, l_31, l_32, l_39, l_40, l_41, l_48, l_57, l_58, l_59, l_60, l_63, l_90, l_97, l_98, l_99, l_100, l_102, l_103, l_104, l_107, l_109, l_112, l_115, l_116, l_117, l_120, l_122, l_126, l_166, l_180, l_240, l_255, l_640, l_999, l_2656, l_3064, l_3704, l_3708, l_3712, l_3713, l_3893, l_155720, l_1000000, n_ltT, n_ltF, n_leT, n_leF, n_eqT, n_eqF, n_eqm, n_eqm', n_mltn, n_mlen, n_nltm, n_nlem, n_mltm, n_mlem, n_add, n_mul, n_sub, n_subm, n_cl, n_ofNat, n_div, n_mod, obM_si, rdI_si, wrI_si, lnI_si, grM_si', tgM_si', obM_sa, rdI_sa, wrI_sa, lnI_sa, grM_sa', tgM_sa', obM_2 s2, rdI_2 s2, wrI_2 s2, lnI_2 s2, grM_2 s2, tgM_2 s2, obM_2 s3, rdI_2 s3, wrI_2 s3, lnI_2 s3, grM_2 s3, tgM_2 s3, ms_ob H, ms_g1 H, ms_g5 H, ms_g6 H, ms_g8 H, ms_g9 H, ms_g11 H, ms_g12 H, ms_g15 H, ms_g16 H, ms_g18 H, ms_g19 H, ms_g20 H, ms_g22 H, ms_g24 H, ms_g27 H, ms_g32 H, ms_g21 H, ms_t1 H, ms_r1 H, ms_w1 H, ms_l1 H, ms_t5 H, ms_r5 H, ms_w5 H, ms_l5 H, ms_t6 H, ms_r6 H, ms_w6 H, ms_l6 H, ms_t8 H, ms_r8 H, ms_w8 H, ms_l8 H, ms_t9 H, ms_r9 H, ms_w9 H, ms_l9 H, ms_t11 H, ms_r11 H, ms_w11 H, ms_l11 H, ms_t12 H, ms_r12 H, ms_w12 H, ms_l12 H, ms_t15 H, ms_r15 H, ms_w15 H, ms_l15 H, ms_t16 H, ms_r16 H, ms_w16 H, ms_l16 H, ms_t18 H, ms_r18 H, ms_w18 H, ms_l18 H, ms_t19 H, ms_r19 H, ms_w19 H, ms_l19 H, ms_t20 H, ms_r20 H, ms_w20 H, ms_l20 H, ms_t22 H, ms_r22 H, ms_w22 H, ms_l22 H, ms_t24 H, ms_r24 H, ms_w24 H, ms_l24 H, ms_t27 H, ms_r27 H, ms_w27 H, ms_l27 H, ms_t32 H, ms_r32 H, ms_w32 H, ms_l32 H, ms_b H, e2, e3, e4]
  · obtain ⟨M4, e4, F4, C4, h17⟩ := mTakeB (how := 4) C3 (Wd_of C.2.2.1 VC) hp e hb40
    refine ⟨M4, ?_, RF_tr (RF_si _ _ _) (RF_tr F2 (RF_tr F3 F4)), C4, h17⟩
    simp (disch := omega) only [BM_getOnce_173, BM_getOnce_207, fM_set, gd1, bs1, ↓reduceIte, d_nz, d_nn, or_true, true_or, or_false, false_or, decide_true, Sum.elim_inl, Sum.elim_inr, ↓l_m1, l_0, l_1, l_2, l_3, l_4, l_5, l_6, l_7, l_8, l_9, l_10, l_16, l_17, l_18, l_20, l_23, l_24, l_30, l_31, l_32, l_39, l_40, l_41, l_48, l_57, l_58, l_59, l_60, l_63, l_90, l_97, l_98, l_99, l_100, l_102, l_103, l_104, l_107, l_109, l_112, l_115, l_116, l_117, l_120, l_122, l_126, l_166, l_180, l_240, l_255, l_640, l_999, l_2656, l_3064, l_3704, l_3708, l_3712, l_3713, l_3893, l_155720, l_1000000, n_ltT, n_ltF, n_leT, n_leF, n_eqT, n_eqF, n_eqm, n_eqm', n_mltn, n_mlen, n_nltm, n_nlem, n_mltm, n_mlem, n_add, n_mul, n_sub, n_subm, n_cl, n_ofNat, n_div, n_mod, obM_si, rdI_si, wrI_si, lnI_si, grM_si', tgM_si', obM_sa, rdI_sa, wrI_sa, lnI_sa, grM_sa', tgM_sa', obM_2 s2, rdI_2 s2, wrI_2 s2, lnI_2 s2, grM_2 s2, tgM_2 s2, obM_2 s3, rdI_2 s3, wrI_2 s3, lnI_2 s3, grM_2 s3, tgM_2 s3, ms_ob H, ms_g1 H, ms_g5 H, ms_g6 H, ms_g8 H, ms_g9 H, ms_g11 H, ms_g12 H, ms_g15 H, ms_g16 H, ms_g18 H, ms_g19 H, ms_g20 H, ms_g22 H, ms_g24 H, ms_g27 H, ms_g32 H, ms_g21 H, ms_t1 H, ms_r1 H, ms_w1 H, ms_l1 H, ms_t5 H, ms_r5 H, ms_w5 H, ms_l5 H, ms_t6 H, ms_r6 H, ms_w6 H, ms_l6 H, ms_t8 H, ms_r8 H, ms_w8 H, ms_l8 H, ms_t9 H, ms_r9 H, ms_w9 H, ms_l9 H, ms_t11 H, ms_r11 H, ms_w11 H, ms_l11 H, ms_t12 H, ms_r12 H, ms_w12 H, ms_l12 H, ms_t15 H, ms_r15 H, ms_w15 H, ms_l15 H, ms_t16 H, ms_r16 H, ms_w16 H, ms_l16 H, ms_t18 H, ms_r18 H, ms_w18 H, ms_l18 H, ms_t19 H, ms_r19 H, ms_w19 H, ms_l19 H, ms_t20 H, ms_r20 H, ms_w20 H, ms_l20 H, ms_t22 H, ms_r22 H, ms_w22 H, ms_l22 H, ms_t24 H, ms_r24 H, ms_w24 H, ms_l24 H, ms_t27 H, ms_r27 H, ms_w27 H, ms_l27 H, ms_t32 H, ms_r32 H, ms_w32 H, ms_l32 H, ms_b H, e2, e3, e4]
theorem coll_ne (h : 0 < lst S p) : ∃ b r, bl (oColl p S) (3 * p) = b :: r := by
  unfold oColl
  by_cases h0 : bl S (3 * p) = []
  · rw [if_neg (fun q => q h0)]
    by_cases h1 : bl S (3 * p + 1) = []
    · rw [if_neg (fun q => q h1)]
      have e : bl (oMove (3 * p + 2) (3 * p) S) (3 * p) = bl S (3 * p + 2) := by
        show ud (ud (bl S) (3 * p) (bl S (3 * p + 2) ++ bl S (3 * p))) (3 * p + 2) [] (3 * p) = _
        rw [ud_n _ _ (by omega), ud_s, h0, List.append_nil]
      rw [e]
      cases h2 : bl S (3 * p + 2) with
      | nil =>
        unfold lst at h
        rw [h0, h1, h2] at h
        exact absurd h (by simp)
      | cons x r => exact ⟨x, r, rfl⟩
    · rw [if_pos h1]
      have e : bl (oMove (3 * p + 1) (3 * p) S) (3 * p) = bl S (3 * p + 1) := by
        show ud (ud (bl S) (3 * p) (bl S (3 * p + 1) ++ bl S (3 * p))) (3 * p + 1) [] (3 * p) = _
        rw [ud_n _ _ (by omega), ud_s, h0, List.append_nil]
      rw [e]
      cases h2 : bl S (3 * p + 1) with
      | nil => exact absurd h2 h1
      | cons x r => exact ⟨x, r, rfl⟩
  · rw [if_pos h0]
    cases h2 : bl S (3 * p) with
    | nil => exact absurd h2 h0
    | cons x r => exact ⟨x, r, rfl⟩
/-- what aG2 makes: a page of the thread's own, with something in its lists -/
theorem aG2_ok (hRu : RuOK ρ) (V : Inv ρ β S) (ht : t < rT ρ) (hc : c < rK ρ) (e : pgF ρ t c S = some p) : Inv ρ β (oPop (6 * t + c) (gPre t c S) S) ∧ Inv ρ β (aG2 ρ t c p S) ∧ 0 < lst (aG2 ρ t c p S) p ∧ kd (aG2 ρ t c p S) p = 1 := by
  have hR := ru_b hRu
  have hq : 6 * t + c < 24 := by omega
  obtain ⟨hp, hcs⟩ := pgF_cases hRu V ht hc e
  have hp16 : p < 16 := by omega
  have popI : ∀ (xs ys : List Nat) (S : HSt), Inv ρ β S → qu S (6 * t + c) = xs ++ ys → (∀ x ∈ xs, lst S x = 0) → Inv ρ β (oPop (6 * t + c) xs S) := by
    intro xs
    induction xs with
    | nil => intro ys S V _ _; exact V
    | cons x xs ih =>
      intro ys S V e hl
      refine ih ys (oFull x (6 * t + c) S) (inv_full hq e (hl x List.mem_cons_self) V) ?_ (fun z hz => hl z (List.mem_cons_of_mem _ hz))
      show ud (qu S) (6 * t + c) (qu S (6 * t + c)).tail (6 * t + c) = _
      rw [ud_s, e]
      rfl
  obtain ⟨g1, g2, g3, g4, g5, g6, g7, g8⟩ := oPop_pr (6 * t + c) (gPre t c S) S
  unfold aG2
  rcases hcs with ⟨hk, hg⟩ | ⟨hk, hcl, hl, hg⟩ | ⟨hk, how, hcl, hl, ys, hg⟩
  · have V1 := popI (gPre t c S) [] S V (by rw [hg, List.append_nil]) gPre_0
    have hnp : p ∉ gPre t c S := by rw [hg]; exact no_q V (by omega) _ hq
    have k1 : kd (oPop (6 * t + c) (gPre t c S) S) p = 0 := (g8 p hnp).trans hk
    rw [if_pos hk]
    refine ⟨V1, inv_fill ht hc hp (by omega) k1 V1, ?_, ud_s _ _ _⟩
    have hz := hRu.2.1 c hc
    have hn0 : 0 < rU ρ / rZ ρ c := Nat.div_pos hz.2 hz.1
    unfold lst
    show 0 < (ud (bl _) (3 * p) (List.range (rU ρ / rZ ρ c)) (3 * p)).length + _ + _
    rw [ud_s, List.length_range]
    omega
  · have V1 := popI (gPre t c S) [] S V (by rw [hg, List.append_nil]) gPre_0
    have hnp : p ∉ gPre t c S := by rw [hg]; exact no_q V (by omega) _ hq
    have k1 : kd (oPop (6 * t + c) (gPre t c S) S) p = 3 := (g8 p hnp).trans hk
    rw [if_neg (by omega), if_pos hk]
    refine ⟨V1, inv_adopt ht hp16 k1 V1, ?_, ud_s _ _ _⟩
    show 0 < (bl (oPop (6 * t + c) (gPre t c S) S) (3 * p)).length + (bl (oPop (6 * t + c) (gPre t c S) S) (3 * p + 1)).length + (bl (oPop (6 * t + c) (gPre t c S) S) (3 * p + 2)).length
    rw [g1]
    exact hl
  · have V1 := popI (gPre t c S) (p :: ys) S V hg gPre_0
    have hnd := (V.2.2.1 _ hq).1
    rw [hg] at hnd
    have hnp : p ∉ gPre t c S := fun w => (List.nodup_append.mp hnd).2.2 p w p List.mem_cons_self rfl
    have k1 : kd (oPop (6 * t + c) (gPre t c S) S) p = 1 := (g8 p hnp).trans hk
    rw [if_neg (by omega), if_neg (by omega)]
    refine ⟨V1, V1, ?_, k1⟩
    unfold lst
    rw [g1]
    exact hl
theorem adopt_len (hRu : RuOK ρ) (V : Inv ρ β (oAdopt t p S)) (ht : t < rT ρ) (hcl : cl S p < rK ρ) : (qu S (6 * t + cl S p)).length < 16 := by
  have hR := ru_b hRu
  have h1 := qlen V (q := 6 * t + cl S p) (by omega)
  have e : qu (oAdopt t p S) (6 * t + cl S p) = qu S (6 * t + cl S p) ++ [p] := by
    show ud (qu S) (6 * ud (ow S) p t p + cl S p) (qu S (6 * ud (ow S) p t p + cl S p) ++ [p]) (6 * t + cl S p) = _
    rw [ud_s, ud_s]
  rw [e, List.length_append, List.length_singleton] at h1
  omega
theorem mGetOnce (C : RC M ρ S) (V : Inv ρ β S) (ht : t < rT ρ) (hc : c < rK ρ) (e : pgF ρ t c S = some p) : ∃ M', fM_getOnce 1003 (nI t) (nI c) M = some (nI (100 * p + aBlk ρ t c p S), M') ∧ RF M M' ∧ RC M' ρ (oTake p (oColl p (aG2 ρ t c p S))) ∧ giM M' 1003 17 = nI (hwF t p S) := by
  have H := C.1
  have hR := ru_b C.2.2.1
  have hq : 6 * t + c < 24 := by omega
  have hql := qlen V hq
  obtain ⟨hp, hcs⟩ := pgF_cases C.2.2.1 V ht hc e
  have hp16 : p < 16 := by omega
  obtain ⟨V1, V2, hl2, hk2⟩ := aG2_ok C.2.2.1 V ht hc e
  obtain ⟨b, r, eb⟩ := coll_ne hl2
  have hbk : aBlk ρ t c p S = b := by
    unfold aBlk
    rw [eb]
    rfl
  rw [hbk]
  have VC := inv_coll hp16 V2 (show kd (aG2 ρ t c p S) p ≠ 2 by omega)
  have hb40 : b < 40 := by
    have h1 := (in_cut VC.2.1 hp16 (Or.inl rfl) (b := b) (by rw [eb]; exact List.mem_cons_self)).1
    have h2 := cut_le C.2.2.1 VC.1 hp16
    omega
  obtain ⟨g1, g2, g3, g4, g5, g6, g7, g8⟩ := oPop_pr (6 * t + c) (gPre t c S) S
  have g9 := oPop_kd (6 * t + c) (gPre t c S) S
  have hmem : ∀ x ∈ gPre t c S, kd S x = 1 := fun x hx => (((V.2.2.1 _ hq).2 x).mp ((List.takeWhile_sublist _).subset hx)).2.1
  have adE : lo (isAd c (oPop (6 * t + c) (gPre t c S) S)) 0 (rP ρ) = lo (isAd c S) 0 (rP ρ) := lo_congr (fun j _ _ => by
    unfold isAd lst
    rw [g1, g3]
    by_cases hj : j ∈ gPre t c S
    · rw [g9 j hj, hmem j hj]; simp
    · rw [g8 j hj])
  have emE : lo (isEm (oPop (6 * t + c) (gPre t c S) S)) 0 (rP ρ) = lo (isEm S) 0 (rP ρ) := lo_congr (fun j _ _ => by
    unfold isEm
    by_cases hj : j ∈ gPre t c S
    · rw [g9 j hj, hmem j hj]; simp
    · rw [g8 j hj])
  have hfind := e
  unfold pgF at hfind
  rcases hcs with ⟨hk, hg⟩ | ⟨hk, hcl, hl, hg⟩ | ⟨hk, how, hcl, hl, ys, hg⟩
  · -- an empty page
    have ehw : hwF t p S = 5 := if_pos hk
    have e2 : aG2 ρ t c p S = oFill ρ t c p (oPop (6 * t + c) (gPre t c S) S) := if_pos hk
    rw [e2] at eb V2 ⊢
    have hnp : p ∉ gPre t c S := by rw [hg]; exact no_q V (by omega) _ hq
    obtain ⟨M1, F1, -, A1, -⟩ := go_loop (ρ := ρ) (β := β) hq (nI t) (nI c) (gPre t c S) 1000000 (nI 1) [] M S C V (by rw [hg, List.append_nil]) gPre_0 (fun y r h => by cases h) (by rw [hg]; omega)
    obtain ⟨A1, C1⟩ := A1 rfl
    have k1 : kd (oPop (6 * t + c) (gPre t c S) S) p = 0 := (g8 p hnp).trans hk
    have f1 : (qu S (6 * t + c)).find? (hasL S) = none := by
      cases h : (qu S (6 * t + c)).find? (hasL S) with
      | none => rfl
      | some x =>
        rw [h, Option.some_or] at hfind
        obtain rfl := Option.some.inj hfind
        exact absurd (List.mem_of_find?_eq_some h) (no_q V (by omega) _ hq)
    rw [f1, Option.none_or] at hfind
    have f2 : lo (isAd c S) 0 (rP ρ) = none := by
      cases h : lo (isAd c S) 0 (rP ρ) with
      | none => rfl
      | some x =>
        rw [h, Option.some_or] at hfind
        obtain rfl := Option.some.inj hfind
        have := (of_decide_eq_true (lo_spec h).2.2).1
        omega
    rw [f2, Option.none_or] at hfind
    have o1 := mOther1 C1 V1 hc
    rw [adE, f2] at o1
    have o1 : fM_otherPage 1003 (nI c) (nI 1) M1 = some (mI, M1) := o1
    have o0 := mOther0 C1 V1 (nI c)
    rw [emE, hfind] at o0
    have o0 : fM_otherPage 1003 (nI c) (nI 0) M1 = some (nI p, M1) := o0
    have H1 := C1.1
    have W1 := Wd_of C.2.2.1 V1
    have C2 : RC (siM M1 1011 (166 * p + 2) (nI c)) ρ (wcl (oPop (6 * t + c) (gPre t c S) S) (ud (cl (oPop (6 * t + c) (gPre t c S) S)) p c)) := RC_si C1 (RW_cl W1 C1.2.2.2 hp16)
    have hz := C.2.2.1.2.1 c hc
    have hn40 : rU ρ / rZ ρ c ≤ 40 := Nat.le_trans (Nat.div_le_self _ _) (by omega)
    have z1 := (ct_nil hp16 V1.2.1 (cut_0 k1)).1.1
    have z1 : bl (wcl (oPop (6 * t + c) (gPre t c S) S) (ud (cl (oPop (6 * t + c) (gPre t c S) S)) p c)) (3 * p) = [] := z1
    rw [← fK_0 z1] at C2
    obtain ⟨M3, e3, F3, C3⟩ := mFillL (S := wcl (oPop (6 * t + c) (gPre t c S) S) (ud (cl (oPop (6 * t + c) (gPre t c S) S)) p c)) (nI t) (nI 0) W1 hp16 hc rfl hn40 (rU ρ / rZ ρ c) 1000000 0 _ C2 (by omega) (by omega)
    have eA : oAdopt t p (fK p (wcl (oPop (6 * t + c) (gPre t c S) S) (ud (cl (oPop (6 * t + c) (gPre t c S) S)) p c)) (rU ρ / rZ ρ c)) = oFill ρ t c p (oPop (6 * t + c) (gPre t c S) S) := rfl
    have ecl : cl (fK p (wcl (oPop (6 * t + c) (gPre t c S) S) (ud (cl (oPop (6 * t + c) (gPre t c S) S)) p c)) (rU ρ / rZ ρ c)) p = c := ud_s _ _ _
    rw [← eA] at eb V2 ⊢
    have c40 : cpl (3 * p) = 40 := cpl_3 (w := 0) hp16 (by omega)
    have WK : Wd (fK p (wcl (oPop (6 * t + c) (gPre t c S) S) (ud (cl (oPop (6 * t + c) (gPre t c S) S)) p c)) (rU ρ / rZ ρ c)) := Wd_row (S := wcl (oPop (6 * t + c) (gPre t c S) S) (ud (cl (oPop (6 * t + c) (gPre t c S) S)) p c)) W1 (by rw [c40, List.length_range]; exact hn40)
    obtain ⟨M4, e4, F4, C4, h17⟩ := m173 (v6 := 0) C3 WK hp16 ht (by rw [ecl]; exact hc) (adopt_len C.2.2.1 V2 ht (by rw [ecl]; exact hc)) V2 eb (by omega)
    rw [ehw]
    refine ⟨M4, ?_, RF_tr F1 (RF_tr (RF_si _ _ _) (RF_tr F3 F4)), C4, h17⟩
    simp (disch := omega) only [fM_getOnce, fM_queueAt, BM_getOnce_99, fM_set, gd1, bs1, ↓reduceIte, d_nz, d_nn, or_true, true_or, or_false, false_or, decide_true, Sum.elim_inl, Sum.elim_inr, ↓l_m1, l_0, l_1, l_2, l_3, l_4, l_5, l_6, l_7, l_8, l_9, l_10, l_16, l_17, l_18, l_20, l_23, l_24, l_30, l_31, l_32, l_39, l_40, l_41, l_48, l_57, l_58, l_59, l_60, l_63, l_90, l_97, l_98, l_99, l_100, l_102, l_103, l_104, l_107, l_109, l_112, l_115, l_116, l_117, l_120, l_122, l_126, l_166, l_180, l_240, l_255, l_640, l_999, l_2656, l_3064, l_3704, l_3708, l_3712, l_3713, l_3893, l_155720, l_1000000, n_ltT, n_ltF, n_leT, n_leF, n_eqT, n_eqF, n_eqm, n_eqm', n_mltn, n_mlen, n_nltm, n_nlem, n_mltm, n_mlem, n_add, n_mul, n_sub, n_subm, n_cl, n_ofNat, n_div, n_mod, obM_si, rdI_si, wrI_si, lnI_si, grM_si', tgM_si', obM_sa, rdI_sa, wrI_sa, lnI_sa, grM_sa', tgM_sa', ms_ob H, ms_g1 H, ms_g5 H, ms_g6 H, ms_g8 H, ms_g9 H, ms_g11 H, ms_g12 H, ms_g15 H, ms_g16 H, ms_g18 H, ms_g19 H, ms_g20 H, ms_g22 H, ms_g24 H, ms_g27 H, ms_g32 H, ms_g21 H, ms_t1 H, ms_r1 H, ms_w1 H, ms_l1 H, ms_t5 H, ms_r5 H, ms_w5 H, ms_l5 H, ms_t6 H, ms_r6 H, ms_w6 H, ms_l6 H, ms_t8 H, ms_r8 H, ms_w8 H, ms_l8 H, ms_t9 H, ms_r9 H, ms_w9 H, ms_l9 H, ms_t11 H, ms_r11 H, ms_w11 H, ms_l11 H, ms_t12 H, ms_r12 H, ms_w12 H, ms_l12 H, ms_t15 H, ms_r15 H, ms_w15 H, ms_l15 H, ms_t16 H, ms_r16 H, ms_w16 H, ms_l16 H, ms_t18 H, ms_r18 H, ms_w18 H, ms_l18 H, ms_t19 H, ms_r19 H, ms_w19 H, ms_l19 H, ms_t20 H, ms_r20 H, ms_w20 H, ms_l20 H, ms_t22 H, ms_r22 H, ms_w22 H, ms_l22 H, ms_t24 H, ms_r24 H, ms_w24 H, ms_l24 H, ms_t27 H, ms_r27 H, ms_w27 H, ms_l27 H, ms_t32 H, ms_r32 H, ms_w32 H, ms_l32 H, ms_b H, ms_ob H1, ms_g1 H1, ms_g5 H1, ms_g6 H1, ms_g8 H1, ms_g9 H1, ms_g11 H1, ms_g12 H1, ms_g15 H1, ms_g16 H1, ms_g18 H1, ms_g19 H1, ms_g20 H1, ms_g22 H1, ms_g24 H1, ms_g27 H1, ms_g32 H1, ms_g21 H1, ms_t1 H1, ms_r1 H1, ms_w1 H1, ms_l1 H1, ms_t5 H1, ms_r5 H1, ms_w5 H1, ms_l5 H1, ms_t6 H1, ms_r6 H1, ms_w6 H1, ms_l6 H1, ms_t8 H1, ms_r8 H1, ms_w8 H1, ms_l8 H1, ms_t9 H1, ms_r9 H1, ms_w9 H1, ms_l9 H1, ms_t11 H1, ms_r11 H1, ms_w11 H1, ms_l11 H1, ms_t12 H1, ms_r12 H1, ms_w12 H1, ms_l12 H1, ms_t15 H1, ms_r15 H1, ms_w15 H1, ms_l15 H1, ms_t16 H1, ms_r16 H1, ms_w16 H1, ms_l16 H1, ms_t18 H1, ms_r18 H1, ms_w18 H1, ms_l18 H1, ms_t19 H1, ms_r19 H1, ms_w19 H1, ms_l19 H1, ms_t20 H1, ms_r20 H1, ms_w20 H1, ms_l20 H1, ms_t22 H1, ms_r22 H1, ms_w22 H1, ms_l22 H1, ms_t24 H1, ms_r24 H1, ms_w24 H1, ms_l24 H1, ms_t27 H1, ms_r27 H1, ms_w27 H1, ms_l27 H1, ms_t32 H1, ms_r32 H1, ms_w32 H1, ms_l32 H1, ms_b H1, A1, o1, o0, e3, e4]
  · -- an abandoned page
    have ehw : hwF t p S = 4 := by
      unfold hwF
      rw [if_neg (by omega), if_pos hk]
    have e2 : aG2 ρ t c p S = oAdopt t p (oPop (6 * t + c) (gPre t c S) S) := by
      unfold aG2
      rw [if_neg (by omega), if_pos hk]
    rw [e2] at eb V2 ⊢
    have hnp : p ∉ gPre t c S := by rw [hg]; exact no_q V (by omega) _ hq
    obtain ⟨M1, F1, -, A1, -⟩ := go_loop (ρ := ρ) (β := β) hq (nI t) (nI c) (gPre t c S) 1000000 (nI 1) [] M S C V (by rw [hg, List.append_nil]) gPre_0 (fun y r h => by cases h) (by rw [hg]; omega)
    obtain ⟨A1, C1⟩ := A1 rfl
    have f1 : (qu S (6 * t + c)).find? (hasL S) = none := by
      cases h : (qu S (6 * t + c)).find? (hasL S) with
      | none => rfl
      | some x =>
        rw [h, Option.some_or] at hfind
        obtain rfl := Option.some.inj hfind
        exact absurd (List.mem_of_find?_eq_some h) (no_q V (by omega) _ hq)
    rw [f1, Option.none_or] at hfind
    have f2 : lo (isAd c S) 0 (rP ρ) = some p := by
      cases h : lo (isAd c S) 0 (rP ρ) with
      | some x =>
        rw [h, Option.some_or] at hfind
        exact hfind
      | none =>
        rw [h, Option.none_or] at hfind
        have := of_decide_eq_true (lo_spec hfind).2.2
        omega
    have o1 := mOther1 C1 V1 hc
    rw [adE, f2] at o1
    have o1 : fM_otherPage 1003 (nI c) (nI 1) M1 = some (nI p, M1) := o1
    have H1 := C1.1
    have ecl : cl (oPop (6 * t + c) (gPre t c S) S) p = c := by rw [g3]; exact hcl
    obtain ⟨M4, e4, F4, C4, h17⟩ := m173 (v6 := 1) C1 (Wd_of C.2.2.1 V1) hp16 ht (by rw [ecl]; exact hc) (adopt_len C.2.2.1 V2 ht (by rw [ecl]; exact hc)) V2 eb (by omega)
    rw [ehw]
    refine ⟨M4, ?_, RF_tr F1 F4, C4, h17⟩
    simp (disch := omega) only [fM_getOnce, fM_queueAt, BM_getOnce_99, gd1, bs1, ↓reduceIte, d_nz, d_nn, or_true, true_or, or_false, false_or, decide_true, Sum.elim_inl, Sum.elim_inr, ↓l_m1, l_0, l_1, l_2, l_3, l_4, l_5, l_6, l_7, l_8, l_9, l_10, l_16, l_17, l_18, l_20, l_23, l_24, l_30, l_31, l_32, l_39, l_40, l_41, l_48, l_57, l_58, l_59, l_60, l_63, l_90, l_97, l_98, l_99, l_100, l_102, l_103, l_104, l_107, l_109, l_112, l_115, l_116, l_117, l_120, l_122, l_126, l_166, l_180, l_240, l_255, l_640, l_999, l_2656, l_3064, l_3704, l_3708, l_3712, l_3713, l_3893, l_155720, l_1000000, n_ltT, n_ltF, n_leT, n_leF, n_eqT, n_eqF, n_eqm, n_eqm', n_mltn, n_mlen, n_nltm, n_nlem, n_mltm, n_mlem, n_add, n_mul, n_sub, n_subm, n_cl, n_ofNat, n_div, n_mod, obM_si, rdI_si, wrI_si, lnI_si, grM_si', tgM_si', obM_sa, rdI_sa, wrI_sa, lnI_sa, grM_sa', tgM_sa', ms_ob H, ms_g1 H, ms_g5 H, ms_g6 H, ms_g8 H, ms_g9 H, ms_g11 H, ms_g12 H, ms_g15 H, ms_g16 H, ms_g18 H, ms_g19 H, ms_g20 H, ms_g22 H, ms_g24 H, ms_g27 H, ms_g32 H, ms_g21 H, ms_t1 H, ms_r1 H, ms_w1 H, ms_l1 H, ms_t5 H, ms_r5 H, ms_w5 H, ms_l5 H, ms_t6 H, ms_r6 H, ms_w6 H, ms_l6 H, ms_t8 H, ms_r8 H, ms_w8 H, ms_l8 H, ms_t9 H, ms_r9 H, ms_w9 H, ms_l9 H, ms_t11 H, ms_r11 H, ms_w11 H, ms_l11 H, ms_t12 H, ms_r12 H, ms_w12 H, ms_l12 H, ms_t15 H, ms_r15 H, ms_w15 H, ms_l15 H, ms_t16 H, ms_r16 H, ms_w16 H, ms_l16 H, ms_t18 H, ms_r18 H, ms_w18 H, ms_l18 H, ms_t19 H, ms_r19 H, ms_w19 H, ms_l19 H, ms_t20 H, ms_r20 H, ms_w20 H, ms_l20 H, ms_t22 H, ms_r22 H, ms_w22 H, ms_l22 H, ms_t24 H, ms_r24 H, ms_w24 H, ms_l24 H, ms_t27 H, ms_r27 H, ms_w27 H, ms_l27 H, ms_t32 H, ms_r32 H, ms_w32 H, ms_l32 H, ms_b H, ms_ob H1, ms_g1 H1, ms_g5 H1, ms_g6 H1, ms_g8 H1, ms_g9 H1, ms_g11 H1, ms_g12 H1, ms_g15 H1, ms_g16 H1, ms_g18 H1, ms_g19 H1, ms_g20 H1, ms_g22 H1, ms_g24 H1, ms_g27 H1, ms_g32 H1, ms_g21 H1, ms_t1 H1, ms_r1 H1, ms_w1 H1, ms_l1 H1, ms_t5 H1, ms_r5 H1, ms_w5 H1, ms_l5 H1, ms_t6 H1, ms_r6 H1, ms_w6 H1, ms_l6 H1, ms_t8 H1, ms_r8 H1, ms_w8 H1, ms_l8 H1, ms_t9 H1, ms_r9 H1, ms_w9 H1, ms_l9 H1, ms_t11 H1, ms_r11 H1, ms_w11 H1, ms_l11 H1, ms_t12 H1, ms_r12 H1, ms_w12 H1, ms_l12 H1, ms_t15 H1, ms_r15 H1, ms_w15 H1, ms_l15 H1, ms_t16 H1, ms_r16 H1, ms_w16 H1, ms_l16 H1, ms_t18 H1, ms_r18 H1, ms_w18 H1, ms_l18 H1, ms_t19 H1, ms_r19 H1, ms_w19 H1, ms_l19 H1, ms_t20 H1, ms_r20 H1, ms_w20 H1, ms_l20 H1, ms_t22 H1, ms_r22 H1, ms_w22 H1, ms_l22 H1, ms_t24 H1, ms_r24 H1, ms_w24 H1, ms_l24 H1, ms_t27 H1, ms_r27 H1, ms_w27 H1, ms_l27 H1, ms_t32 H1, ms_r32 H1, ms_w32 H1, ms_l32 H1, ms_b H1, A1, o1, e4]
  · -- a page of the queue
    have e2 : aG2 ρ t c p S = oPop (6 * t + c) (gPre t c S) S := by
      unfold aG2
      rw [if_neg (by omega), if_neg (by omega)]
    rw [e2] at eb ⊢
    obtain ⟨M1, F1, -, -, B1⟩ := go_loop (ρ := ρ) (β := β) hq (nI t) (nI c) (gPre t c S) 1000000 (nI 1) (p :: ys) M S C V hg gPre_0 (fun y r h => by cases h; exact hl) (by
      rw [hg, List.length_append] at hql
      omega)
    obtain ⟨B1, C1⟩ := B1 p ys rfl
    rw [e2] at VC
    have H1 := C1.1
    have hcw : cwF p S ≤ 2 := by
      unfold cwF
      repeat' split
      all_goals omega
    by_cases hx : gPre t c S = []
    · have ehw : hwF t p S = cwF p S := by
        unfold hwF cwF
        rw [if_neg (by omega), if_neg (by omega), hcl, hg, hx, if_neg (fun q => q rfl)]
      rw [if_pos hx] at B1
      obtain ⟨M4, e4, F4, C4, h17⟩ := mTakeB (how := cwF p S) C1 (Wd_of C.2.2.1 VC) hp16 eb hb40
      rw [ehw]
      refine ⟨M4, ?_, RF_tr F1 F4, C4, h17⟩
      simp (disch := omega) only [fM_getOnce, fM_queueAt, BM_getOnce_56, gd1, bs1, ↓reduceIte, d_nz, d_nn, or_true, true_or, or_false, false_or, decide_true, Sum.elim_inl, Sum.elim_inr, ↓l_m1, l_0, l_1, l_2, l_3, l_4, l_5, l_6, l_7, l_8, l_9, l_10, l_16, l_17, l_18, l_20, l_23, l_24, l_30, l_31, l_32, l_39, l_40, l_41, l_48, l_57, l_58, l_59, l_60, l_63, l_90, l_97, l_98, l_99, l_100, l_102, l_103, l_104, l_107, l_109, l_112, l_115, l_116, l_117, l_120, l_122, l_126, l_166, l_180, l_240, l_255, l_640, l_999, l_2656, l_3064, l_3704, l_3708, l_3712, l_3713, l_3893, l_155720, l_1000000, n_ltT, n_ltF, n_leT, n_leF, n_eqT, n_eqF, n_eqm, n_eqm', n_mltn, n_mlen, n_nltm, n_nlem, n_mltm, n_mlem, n_add, n_mul, n_sub, n_subm, n_cl, n_ofNat, n_div, n_mod, obM_si, rdI_si, wrI_si, lnI_si, grM_si', tgM_si', obM_sa, rdI_sa, wrI_sa, lnI_sa, grM_sa', tgM_sa', ms_ob H, ms_g1 H, ms_g5 H, ms_g6 H, ms_g8 H, ms_g9 H, ms_g11 H, ms_g12 H, ms_g15 H, ms_g16 H, ms_g18 H, ms_g19 H, ms_g20 H, ms_g22 H, ms_g24 H, ms_g27 H, ms_g32 H, ms_g21 H, ms_t1 H, ms_r1 H, ms_w1 H, ms_l1 H, ms_t5 H, ms_r5 H, ms_w5 H, ms_l5 H, ms_t6 H, ms_r6 H, ms_w6 H, ms_l6 H, ms_t8 H, ms_r8 H, ms_w8 H, ms_l8 H, ms_t9 H, ms_r9 H, ms_w9 H, ms_l9 H, ms_t11 H, ms_r11 H, ms_w11 H, ms_l11 H, ms_t12 H, ms_r12 H, ms_w12 H, ms_l12 H, ms_t15 H, ms_r15 H, ms_w15 H, ms_l15 H, ms_t16 H, ms_r16 H, ms_w16 H, ms_l16 H, ms_t18 H, ms_r18 H, ms_w18 H, ms_l18 H, ms_t19 H, ms_r19 H, ms_w19 H, ms_l19 H, ms_t20 H, ms_r20 H, ms_w20 H, ms_l20 H, ms_t22 H, ms_r22 H, ms_w22 H, ms_l22 H, ms_t24 H, ms_r24 H, ms_w24 H, ms_l24 H, ms_t27 H, ms_r27 H, ms_w27 H, ms_l27 H, ms_t32 H, ms_r32 H, ms_w32 H, ms_l32 H, ms_b H, ms_ob H1, ms_g1 H1, ms_g5 H1, ms_g6 H1, ms_g8 H1, ms_g9 H1, ms_g11 H1, ms_g12 H1, ms_g15 H1, ms_g16 H1, ms_g18 H1, ms_g19 H1, ms_g20 H1, ms_g22 H1, ms_g24 H1, ms_g27 H1, ms_g32 H1, ms_g21 H1, ms_t1 H1, ms_r1 H1, ms_w1 H1, ms_l1 H1, ms_t5 H1, ms_r5 H1, ms_w5 H1, ms_l5 H1, ms_t6 H1, ms_r6 H1, ms_w6 H1, ms_l6 H1, ms_t8 H1, ms_r8 H1, ms_w8 H1, ms_l8 H1, ms_t9 H1, ms_r9 H1, ms_w9 H1, ms_l9 H1, ms_t11 H1, ms_r11 H1, ms_w11 H1, ms_l11 H1, ms_t12 H1, ms_r12 H1, ms_w12 H1, ms_l12 H1, ms_t15 H1, ms_r15 H1, ms_w15 H1, ms_l15 H1, ms_t16 H1, ms_r16 H1, ms_w16 H1, ms_l16 H1, ms_t18 H1, ms_r18 H1, ms_w18 H1, ms_l18 H1, ms_t19 H1, ms_r19 H1, ms_w19 H1, ms_l19 H1, ms_t20 H1, ms_r20 H1, ms_w20 H1, ms_l20 H1, ms_t22 H1, ms_r22 H1, ms_w22 H1, ms_l22 H1, ms_t24 H1, ms_r24 H1, ms_w24 H1, ms_l24 H1, ms_t27 H1, ms_r27 H1, ms_w27 H1, ms_l27 H1, ms_t32 H1, ms_r32 H1, ms_w32 H1, ms_l32 H1, ms_b H1, B1, e4]
    · have ehw : hwF t p S = 3 := by
        unfold hwF
        rw [if_neg (by omega), if_neg (by omega), hcl, hg]
        cases hxx : gPre t c S with
        | nil => exact absurd hxx hx
        | cons y r =>
          have hyp : y ≠ p := by
            intro w
            have hnd := (V.2.2.1 _ hq).1
            rw [hg, hxx, w] at hnd
            exact (List.nodup_append.mp hnd).2.2 p List.mem_cons_self p List.mem_cons_self rfl
          exact if_pos (fun w => hyp (Option.some.inj w))
      rw [if_neg hx] at B1
      obtain ⟨M4, e4, F4, C4, h17⟩ := mTakeB (how := 3) C1 (Wd_of C.2.2.1 VC) hp16 eb hb40
      rw [ehw]
      refine ⟨M4, ?_, RF_tr F1 F4, C4, h17⟩
      simp (disch := omega) only [fM_getOnce, fM_queueAt, BM_getOnce_56, gd1, bs1, ↓reduceIte, d_nz, d_nn, or_true, true_or, or_false, false_or, decide_true, Sum.elim_inl, Sum.elim_inr, ↓l_m1, l_0, l_1, l_2, l_3, l_4, l_5, l_6, l_7, l_8, l_9, l_10, l_16, l_17, l_18, l_20, l_23, l_24, l_30, l_31, l_32, l_39, l_40, l_41, l_48, l_57, l_58, l_59, l_60, l_63, l_90, l_97, l_98, l_99, l_100, l_102, l_103, l_104, l_107, l_109, l_112, l_115, l_116, l_117, l_120, l_122, l_126, l_166, l_180, l_240, l_255, l_640, l_999, l_2656, l_3064, l_3704, l_3708, l_3712, l_3713, l_3893, l_155720, l_1000000, n_ltT, n_ltF, n_leT, n_leF, n_eqT, n_eqF, n_eqm, n_eqm', n_mltn, n_mlen, n_nltm, n_nlem, n_mltm, n_mlem, n_add, n_mul, n_sub, n_subm, n_cl, n_ofNat, n_div, n_mod, obM_si, rdI_si, wrI_si, lnI_si, grM_si', tgM_si', obM_sa, rdI_sa, wrI_sa, lnI_sa, grM_sa', tgM_sa', ms_ob H, ms_g1 H, ms_g5 H, ms_g6 H, ms_g8 H, ms_g9 H, ms_g11 H, ms_g12 H, ms_g15 H, ms_g16 H, ms_g18 H, ms_g19 H, ms_g20 H, ms_g22 H, ms_g24 H, ms_g27 H, ms_g32 H, ms_g21 H, ms_t1 H, ms_r1 H, ms_w1 H, ms_l1 H, ms_t5 H, ms_r5 H, ms_w5 H, ms_l5 H, ms_t6 H, ms_r6 H, ms_w6 H, ms_l6 H, ms_t8 H, ms_r8 H, ms_w8 H, ms_l8 H, ms_t9 H, ms_r9 H, ms_w9 H, ms_l9 H, ms_t11 H, ms_r11 H, ms_w11 H, ms_l11 H, ms_t12 H, ms_r12 H, ms_w12 H, ms_l12 H, ms_t15 H, ms_r15 H, ms_w15 H, ms_l15 H, ms_t16 H, ms_r16 H, ms_w16 H, ms_l16 H, ms_t18 H, ms_r18 H, ms_w18 H, ms_l18 H, ms_t19 H, ms_r19 H, ms_w19 H, ms_l19 H, ms_t20 H, ms_r20 H, ms_w20 H, ms_l20 H, ms_t22 H, ms_r22 H, ms_w22 H, ms_l22 H, ms_t24 H, ms_r24 H, ms_w24 H, ms_l24 H, ms_t27 H, ms_r27 H, ms_w27 H, ms_l27 H, ms_t32 H, ms_r32 H, ms_w32 H, ms_l32 H, ms_b H, ms_ob H1, ms_g1 H1, ms_g5 H1, ms_g6 H1, ms_g8 H1, ms_g9 H1, ms_g11 H1, ms_g12 H1, ms_g15 H1, ms_g16 H1, ms_g18 H1, ms_g19 H1, ms_g20 H1, ms_g22 H1, ms_g24 H1, ms_g27 H1, ms_g32 H1, ms_g21 H1, ms_t1 H1, ms_r1 H1, ms_w1 H1, ms_l1 H1, ms_t5 H1, ms_r5 H1, ms_w5 H1, ms_l5 H1, ms_t6 H1, ms_r6 H1, ms_w6 H1, ms_l6 H1, ms_t8 H1, ms_r8 H1, ms_w8 H1, ms_l8 H1, ms_t9 H1, ms_r9 H1, ms_w9 H1, ms_l9 H1, ms_t11 H1, ms_r11 H1, ms_w11 H1, ms_l11 H1, ms_t12 H1, ms_r12 H1, ms_w12 H1, ms_l12 H1, ms_t15 H1, ms_r15 H1, ms_w15 H1, ms_l15 H1, ms_t16 H1, ms_r16 H1, ms_w16 H1, ms_l16 H1, ms_t18 H1, ms_r18 H1, ms_w18 H1, ms_l18 H1, ms_t19 H1, ms_r19 H1, ms_w19 H1, ms_l19 H1, ms_t20 H1, ms_r20 H1, ms_w20 H1, ms_l20 H1, ms_t22 H1, ms_r22 H1, ms_w22 H1, ms_l22 H1, ms_t24 H1, ms_r24 H1, ms_w24 H1, ms_l24 H1, ms_t27 H1, ms_r27 H1, ms_w27 H1, ms_l27 H1, ms_t32 H1, ms_r32 H1, ms_w32 H1, ms_l32 H1, ms_b H1, B1, e4]
end MH
