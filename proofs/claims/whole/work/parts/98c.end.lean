/-! SCRIPTS RUN: the class's progress, the end of a scope -/
def PSh (M : Mem) (q : Nat) : Prop := (790 < q ∧ q < 1000) ∧ obM M q 5 5 = true ∧ (grM M q 0 = q + 1 ∧ grM M q 1 = q + 2 ∧ grM M q 2 = q + 3) ∧ arS M (q + 1) 24 ∧ arS M (q + 2) 24 ∧ arS M (q + 3) 24
def bO (x : GoT) : Int32 := if x.2.2.2 = true then nI x.1 else mI
def PG (M : Mem) (q n d : Nat) (g : Nat → GoT) : Prop := giM M q 3 = nI n ∧ giM M q 4 = nI d ∧ ∀ r, r < n → giM M (q + 1) r = bO (g r) ∧ giM M (q + 2) r = nI (g r).2.1 ∧ giM M (q + 3) r = nI (g r).2.2.1 ∧ (g r).2.2.1 ≤ 7
def Fhq (h q : Nat) (M M' : Mem) : Prop := M'.2 = M.2 ∧ ∀ a, (a < h + 1 ∨ h + 17 < a) → (a < q ∨ q + 3 < a) → giM M' a = giM M a
section CE
variable {M M1 M2 : Mem} {ρ : Rul} {β n d h q : Nat} {S : HSt} {g : Nat → GoT}
theorem PS_2 (e : M1.2 = M.2) (P : PSh M q) : PSh M1 q := by
  obtain ⟨I, T⟩ := M
  obtain ⟨I', T'⟩ := M1
  obtain rfl : T' = T := e
  exact P
theorem ps_b (P : PSh M q) : 790 < q ∧ q < 1000 := P.1
theorem ps_ob (P : PSh M q) : obM M q 5 5 = true := P.2.1
theorem ps_g0 (P : PSh M q) : grM M q 0 = q + 1 := P.2.2.1.1
theorem ps_g1 (P : PSh M q) : grM M q 1 = q + 2 := P.2.2.1.2.1
theorem ps_g2 (P : PSh M q) : grM M q 2 = q + 3 := P.2.2.1.2.2
theorem ps_a1 (P : PSh M q) : arS M (q + 1) 24 := P.2.2.2.1
theorem ps_a2 (P : PSh M q) : arS M (q + 2) 24 := P.2.2.2.2.1
theorem ps_a3 (P : PSh M q) : arS M (q + 3) 24 := P.2.2.2.2.2
theorem Fhq_refl (h q : Nat) (M : Mem) : Fhq h q M M := ⟨rfl, fun _ _ _ => rfl⟩
theorem Fhq_tr (F : Fhq h q M M1) (G : Fhq h q M1 M2) : Fhq h q M M2 := ⟨G.1.trans F.1, fun a h1 h2 => (G.2 a h1 h2).trans (F.2 a h1 h2)⟩
theorem Fhq_h {lo hi : Nat} (F : Fr M M1 lo hi) (h1 : h + 1 ≤ lo) (h2 : hi ≤ h + 17) : Fhq h q M M1 := ⟨F.1, fun a h3 _ => F.2 a (by omega)⟩
theorem Fhq_q {a j : Nat} {z : Int32} (h1 : q ≤ a) (h2 : a ≤ q + 3) : Fhq h q M (siM M a j z) := ⟨rfl, fun x _ h3 => giM_un (by omega)⟩
theorem PG_h {lo hi : Nat} (P : PG M q n d g) (F : Fr M M1 lo hi) (h2 : hi < q) : PG M1 q n d g := by
  unfold PG
  rw [F.2 q (by omega), F.2 (q + 1) (by omega), F.2 (q + 2) (by omega), F.2 (q + 3) (by omega)]
  exact P
theorem CC_q {a j : Nat} {z : Int32} (C : CC M h ρ β S) (h1 : h + 17 < a) (h2 : 7 < a) : CC (siM M a j z) h ρ β S := CC_Fr C (Fr_si (lo := a) (hi := a) (Nat.le_refl a) (Nat.le_refl a)) (by omega) (by omega)
theorem low_loop (C : CC M h ρ β S) (V : Inv ρ β S) : ∀ (k f i : Nat), i + k = rT ρ → k < f → LH_lowestLiving_2 f h (nI i) M = some (oN (lo (fun t => decide (lv S t = 1)) i k), M) := by
  have H := C.1
  have R := C.2.1
  have hR := ru_b C.2.2.1
  intro k
  induction k with
  | zero =>
    intro f i hi hf
    obtain ⟨fu, rfl⟩ : ∃ fu, f = fu + 1 := ⟨f - 1, by omega⟩
    show BH_lowestLiving_2 (LH_lowestLiving_2 fu) h (nI i) M = some (mI, M)
    simp (disch := omega) only [BH_lowestLiving_2, gd1n, bs1n, ↓reduceIte, d_nz, d_nn, or_true, true_or, or_false, false_or, decide_true, Sum.elim_inl, Sum.elim_inr, ↓l_m1, l_0, l_1, l_2, l_3, l_4, l_5, l_6, l_7, l_8, l_9, l_10, l_16, l_17, l_18, l_20, l_23, l_24, l_30, l_31, l_32, l_39, l_40, l_41, l_48, l_57, l_58, l_59, l_60, l_63, l_90, l_97, l_98, l_99, l_100, l_102, l_103, l_104, l_107, l_109, l_112, l_115, l_116, l_117, l_120, l_122, l_126, l_166, l_180, l_240, l_255, l_640, l_999, l_2656, l_3064, l_3704, l_3708, l_3712, l_3713, l_3893, l_155720, l_1000000, n_ltT, n_ltF, n_leT, n_leF, n_eqT, n_eqF, n_eqm, n_eqm', n_mltn, n_mlen, n_nltm, n_nlem, n_mltm, n_mlem, n_add, n_mul, n_sub, n_subm, n_cl, n_ofNat, n_div, n_mod, obM_si, rdI_si, wrI_si, lnI_si, grM_si', tgM_si', obM_sa, rdI_sa, wrI_sa, lnI_sa, grM_sa', tgM_sa', hs_ob H, hs_g0 H, hs_g1 H, hs_g2 H, hs_g3 H, hs_g4 H, hs_g5 H, hs_g6 H, hs_g7 H, hs_g8 H, hs_t1 H, hs_r1 H, hs_w1 H, hs_l1 H, hs_t2 H, hs_r2 H, hs_w2 H, hs_l2 H, hs_t3 H, hs_r3 H, hs_w3 H, hs_l3 H, hs_t14 H, hs_r14 H, hs_w14 H, hs_l14 H, hs_t15 H, hs_r15 H, hs_w15 H, hs_l15 H, hs_ob4 H, hs_g4_0 H, hs_t5 H, hs_r5 H, hs_w5 H, hs_l5 H, hs_g4_1 H, hs_t6 H, hs_r6 H, hs_w6 H, hs_l6 H, hs_g4_2 H, hs_t7 H, hs_r7 H, hs_w7 H, hs_l7 H, hs_g4_3 H, hs_t8 H, hs_r8 H, hs_w8 H, hs_l8 H, hs_ob9 H, hs_g9_0 H, hs_t10 H, hs_r10 H, hs_w10 H, hs_l10 H, hs_g9_1 H, hs_t11 H, hs_r11 H, hs_w11 H, hs_l11 H, hs_g9_2 H, hs_t12 H, hs_r12 H, hs_w12 H, hs_l12 H, hs_g9_3 H, hs_t13 H, hs_r13 H, hs_w13 H, hs_l13 H, hs_ob16 H, hs_g16 H, hs_t17 H, hs_r17 H, hs_w17 H, hs_l17 H, hs_ob5 H, hs_g50 H, hs_g51 H, hs_tu6 H, hs_ru6 H, hs_wu6 H, hs_lu6 H, hs_tu7 H, hs_ru7 H, hs_wu7 H, hs_lu7 H, rc_T R, rc_P R, rc_U R, rc_B R, rc_H R, rc_K R]
  | succ k ih =>
    intro f i hi hf
    obtain ⟨fu, rfl⟩ : ∃ fu, f = fu + 1 := ⟨f - 1, by omega⟩
    have hl := (V.2.2.2.2.1 i (by omega)).1
    have e := ((C.2.2.2.2.2.2.2.1 i (by omega)).1 (by omega))
    have ih' := ih fu (i + 1) (by omega) (by omega)
    show BH_lowestLiving_2 (LH_lowestLiving_2 fu) h (nI i) M = some (oN (if decide (lv S i = 1) = true then some i else lo (fun t => decide (lv S t = 1)) (i + 1) k), M)
    rcases (show lv S i = 0 ∨ lv S i = 1 by omega) with h0 | h1
    · rw [h0] at e
      rw [if_neg (by rw [h0]; decide)]
      simp (disch := omega) only [BH_lowestLiving_2, gd1n, bs1n, ↓reduceIte, d_nz, d_nn, or_true, true_or, or_false, false_or, decide_true, Sum.elim_inl, Sum.elim_inr, ↓l_m1, l_0, l_1, l_2, l_3, l_4, l_5, l_6, l_7, l_8, l_9, l_10, l_16, l_17, l_18, l_20, l_23, l_24, l_30, l_31, l_32, l_39, l_40, l_41, l_48, l_57, l_58, l_59, l_60, l_63, l_90, l_97, l_98, l_99, l_100, l_102, l_103, l_104, l_107, l_109, l_112, l_115, l_116, l_117, l_120, l_122, l_126, l_166, l_180, l_240, l_255, l_640, l_999, l_2656, l_3064, l_3704, l_3708, l_3712, l_3713, l_3893, l_155720, l_1000000, n_ltT, n_ltF, n_leT, n_leF, n_eqT, n_eqF, n_eqm, n_eqm', n_mltn, n_mlen, n_nltm, n_nlem, n_mltm, n_mlem, n_add, n_mul, n_sub, n_subm, n_cl, n_ofNat, n_div, n_mod, obM_si, rdI_si, wrI_si, lnI_si, grM_si', tgM_si', obM_sa, rdI_sa, wrI_sa, lnI_sa, grM_sa', tgM_sa', hs_ob H, hs_g0 H, hs_g1 H, hs_g2 H, hs_g3 H, hs_g4 H, hs_g5 H, hs_g6 H, hs_g7 H, hs_g8 H, hs_t1 H, hs_r1 H, hs_w1 H, hs_l1 H, hs_t2 H, hs_r2 H, hs_w2 H, hs_l2 H, hs_t3 H, hs_r3 H, hs_w3 H, hs_l3 H, hs_t14 H, hs_r14 H, hs_w14 H, hs_l14 H, hs_t15 H, hs_r15 H, hs_w15 H, hs_l15 H, hs_ob4 H, hs_g4_0 H, hs_t5 H, hs_r5 H, hs_w5 H, hs_l5 H, hs_g4_1 H, hs_t6 H, hs_r6 H, hs_w6 H, hs_l6 H, hs_g4_2 H, hs_t7 H, hs_r7 H, hs_w7 H, hs_l7 H, hs_g4_3 H, hs_t8 H, hs_r8 H, hs_w8 H, hs_l8 H, hs_ob9 H, hs_g9_0 H, hs_t10 H, hs_r10 H, hs_w10 H, hs_l10 H, hs_g9_1 H, hs_t11 H, hs_r11 H, hs_w11 H, hs_l11 H, hs_g9_2 H, hs_t12 H, hs_r12 H, hs_w12 H, hs_l12 H, hs_g9_3 H, hs_t13 H, hs_r13 H, hs_w13 H, hs_l13 H, hs_ob16 H, hs_g16 H, hs_t17 H, hs_r17 H, hs_w17 H, hs_l17 H, hs_ob5 H, hs_g50 H, hs_g51 H, hs_tu6 H, hs_ru6 H, hs_wu6 H, hs_lu6 H, hs_tu7 H, hs_ru7 H, hs_wu7 H, hs_lu7 H, rc_T R, rc_P R, rc_U R, rc_B R, rc_H R, rc_K R, e, ih']
    · rw [h1] at e
      rw [if_pos (by rw [h1]; decide)]
      simp (disch := omega) only [BH_lowestLiving_2, gd1n, bs1n, ↓reduceIte, d_nz, d_nn, or_true, true_or, or_false, false_or, decide_true, Sum.elim_inl, Sum.elim_inr, ↓l_m1, l_0, l_1, l_2, l_3, l_4, l_5, l_6, l_7, l_8, l_9, l_10, l_16, l_17, l_18, l_20, l_23, l_24, l_30, l_31, l_32, l_39, l_40, l_41, l_48, l_57, l_58, l_59, l_60, l_63, l_90, l_97, l_98, l_99, l_100, l_102, l_103, l_104, l_107, l_109, l_112, l_115, l_116, l_117, l_120, l_122, l_126, l_166, l_180, l_240, l_255, l_640, l_999, l_2656, l_3064, l_3704, l_3708, l_3712, l_3713, l_3893, l_155720, l_1000000, n_ltT, n_ltF, n_leT, n_leF, n_eqT, n_eqF, n_eqm, n_eqm', n_mltn, n_mlen, n_nltm, n_nlem, n_mltm, n_mlem, n_add, n_mul, n_sub, n_subm, n_cl, n_ofNat, n_div, n_mod, obM_si, rdI_si, wrI_si, lnI_si, grM_si', tgM_si', obM_sa, rdI_sa, wrI_sa, lnI_sa, grM_sa', tgM_sa', hs_ob H, hs_g0 H, hs_g1 H, hs_g2 H, hs_g3 H, hs_g4 H, hs_g5 H, hs_g6 H, hs_g7 H, hs_g8 H, hs_t1 H, hs_r1 H, hs_w1 H, hs_l1 H, hs_t2 H, hs_r2 H, hs_w2 H, hs_l2 H, hs_t3 H, hs_r3 H, hs_w3 H, hs_l3 H, hs_t14 H, hs_r14 H, hs_w14 H, hs_l14 H, hs_t15 H, hs_r15 H, hs_w15 H, hs_l15 H, hs_ob4 H, hs_g4_0 H, hs_t5 H, hs_r5 H, hs_w5 H, hs_l5 H, hs_g4_1 H, hs_t6 H, hs_r6 H, hs_w6 H, hs_l6 H, hs_g4_2 H, hs_t7 H, hs_r7 H, hs_w7 H, hs_l7 H, hs_g4_3 H, hs_t8 H, hs_r8 H, hs_w8 H, hs_l8 H, hs_ob9 H, hs_g9_0 H, hs_t10 H, hs_r10 H, hs_w10 H, hs_l10 H, hs_g9_1 H, hs_t11 H, hs_r11 H, hs_w11 H, hs_l11 H, hs_g9_2 H, hs_t12 H, hs_r12 H, hs_w12 H, hs_l12 H, hs_g9_3 H, hs_t13 H, hs_r13 H, hs_w13 H, hs_l13 H, hs_ob16 H, hs_g16 H, hs_t17 H, hs_r17 H, hs_w17 H, hs_l17 H, hs_ob5 H, hs_g50 H, hs_g51 H, hs_tu6 H, hs_ru6 H, hs_wu6 H, hs_lu6 H, hs_tu7 H, hs_ru7 H, hs_wu7 H, hs_lu7 H, rc_T R, rc_P R, rc_U R, rc_B R, rc_H R, rc_K R, e]
      rfl
theorem low_ok (C : CC M h ρ β S) (V : Inv ρ β S) : fH_lowestLiving h M = some (oN (lowL ρ S), M) := by
  have hR := ru_b C.2.2.1
  unfold fH_lowestLiving
  have e : LH_lowestLiving_2 1000000 h 0 M = some (oN (lowL ρ S), M) := low_loop C V (rT ρ) 1000000 0 (by omega) (by omega)
  rw [e, bs1n]
theorem PG_ud {k : Nat} {x : GoT} {j : Nat} {z : Int32} (P : PG M q n d g) (hx : ∀ r, r < n → giM M1 (q + 1) r = bO (ud g k x r) ∧ giM M1 (q + 2) r = nI (ud g k x r).2.1 ∧ giM M1 (q + 3) r = nI (ud g k x r).2.2.1 ∧ (ud g k x r).2.2.1 ≤ 7) (e : giM M1 q = giM M q) : PG M1 q n d (ud g k x) := ⟨by rw [e]; exact P.1, by rw [e]; exact P.2.1, hx⟩
theorem cE67 {K : Nat → Nat → Int32 → Mem → Option Mem} {k : Nat} (hh : 31 < h) (hq : h + 17 < q) (PS : PSh M q) (P : PG M q n d (ud g k ((g k).1, (g k).2.1, 0, (g k).2.2.2))) (C : CC M h ρ β S) (V : OKS ρ β S) (G : GOK ρ S n g) (hk : k < n) (hn : n ≤ 24) : ∃ M', BG_endScope_67 K q h (nI k) (oN (whoE ρ S (g k).2.1)) M = K q h (pdI k) M' ∧ Fhq h q M M' ∧ PG M' q n d (ud g k ((g k).1, (g k).2.1, 0, (eOne ρ (g k) S).2)) ∧ CC M' h ρ β (eOne ρ (g k) S).1 := by
  have hR := ru_b C.2.2.1
  have H := C.1
  have k1 := (P.2.2 k hk).1
  rw [ud_s] at k1
  have e102 : ∀ M, BG_endScope_102 K q h (nI k) M = K q h (pdI k) M := fun M => by
    unfold BG_endScope_102
    rw [← pd_s]
    rfl
  cases ew : whoE ρ S (g k).2.1 with
  | none =>
    have e1 : eOne ρ (g k) S = (S, (g k).2.2.2) := by
      unfold eOne
      rw [ew]
    rw [e1]
    refine ⟨M, ?_, Fhq_refl h q M, P, C⟩
    show BG_endScope_67 K q h (nI k) mI M = _
    unfold BG_endScope_67
    rw [if_pos (show mI = -1 from rfl)]
    exact e102 M
  | some t =>
    have ht := who_lt (G.1 k hk).1 ew
    have nt1 : ¬ nI t = -1 := of_eq_false (n_eqm (show t < 2147483648 by omega))
    by_cases hs : (g k).2.2.2 = true
    · have e1 : eOne ρ (g k) S = (aFree ρ t ((g k).1 / 100) ((g k).1 % 100) S, false) := by
        unfold eOne
        rw [ew]
        exact if_pos hs
      rw [e1]
      have hb := (G.1 k hk).2.2 hs
      have eb : bO ((g k).1, (g k).2.1, 0, (g k).2.2.2) = nI (g k).1 := if_pos hs
      rw [eb] at k1
      obtain ⟨M2, j1, F2, C2⟩ := cGive C V.1 V.2 ht.1 ht.2 hb.1 hb.2.1 hb.2.2.2
      rw [show 100 * ((g k).1 / 100) + (g k).1 % 100 = (g k).1 by omega] at j1
      have P2 := PG_h P F2 (by omega)
      have PS2 := PS_2 F2.1 PS
      have nb : ¬ nI (g k).1 = -1 := of_eq_false (n_eqm (show (g k).1 < 2147483648 by have := (G.1 k hk).2.1; omega))
      refine ⟨siM M2 (q + 1) k mI, ?_, Fhq_tr (Fhq_h F2 (by omega) (by omega)) (Fhq_q (by omega) (by omega)), ⟨?_, ?_, fun r hr => ?_⟩, CC_q C2 (by omega) (by omega)⟩
      · show BG_endScope_67 K q h (nI k) (nI t) M = _
        unfold BG_endScope_67
        rw [if_neg nt1, ps_ob PS, gd1n, ps_g0 PS, d_nz (by omega), gd1n, ar_rd (ps_a1 PS) (show k < 24 by omega), gd1n, n_cl (by omega), k1, if_neg nb, hs_ob H, gd1n, j1, bs1n, ps_ob PS2, gd1n, ps_g0 PS2, d_nz (by omega), gd1n, ar_wr (ps_a1 PS2) (show k < 24 by omega), gd1n]
        exact e102 _
      · rw [giM_un (by omega)]; exact P2.1
      · rw [giM_un (by omega)]; exact P2.2.1
      · have p2 := P2.2.2 r hr
        rw [giM_ud, giM_un (show q + 2 ≠ q + 1 by omega), giM_un (show q + 3 ≠ q + 1 by omega)]
        rw [ud_at] at p2 ⊢
        rw [ud_at]
        by_cases e : r = k
        · rw [if_pos e] at p2 ⊢
          rw [if_pos e]
          exact ⟨rfl, p2.2.1, p2.2.2.1, p2.2.2.2⟩
        · rw [if_neg e] at p2 ⊢
          rw [if_neg e]
          exact p2
    · have e1 : eOne ρ (g k) S = (S, false) := by
        unfold eOne
        rw [ew]
        exact if_neg hs
      have ef : (g k).2.2.2 = false := by
        cases hv : (g k).2.2.2 with
        | true => exact absurd hv hs
        | false => rfl
      rw [e1]
      rw [ef] at P
      have eb : bO ((g k).1, (g k).2.1, 0, (g k).2.2.2) = mI := if_neg hs
      rw [eb] at k1
      refine ⟨M, ?_, Fhq_refl h q M, P, C⟩
      show BG_endScope_67 K q h (nI k) (nI t) M = _
      unfold BG_endScope_67
      rw [if_neg nt1, ps_ob PS, gd1n, ps_g0 PS, d_nz (by omega), gd1n, ar_rd (ps_a1 PS) (show k < 24 by omega), gd1n, n_cl (by omega), k1, if_pos (show mI = -1 from rfl)]
      exact e102 M
theorem cE_loop (hh : 31 < h) (hq : h + 17 < q) (hn : n ≤ 24) (d0 : 0 < d) (d7 : d ≤ 7) : ∀ k f M S g, k ≤ n → k < f → PSh M q → PG M q n d g → CC M h ρ β S → OKS ρ β S → GOK ρ S n g → ∃ M', LG_endScope_7 f q h (pdI k) M = some M' ∧ Fhq h q M M' ∧ PG M' q n d (eS ρ d k S g).2 ∧ CC M' h ρ β (eS ρ d k S g).1 := by
  intro k
  induction k with
  | zero =>
    intro f M S g hk hf PS P C V G
    obtain ⟨fu, rfl⟩ : ∃ fu, f = fu + 1 := ⟨f - 1, by omega⟩
    refine ⟨M, ?_, Fhq_refl h q M, P, C⟩
    show BG_endScope_7 (LG_endScope_7 fu) q h mI M = some M
    unfold BG_endScope_7
    rw [if_pos (show mI < 0 by decide)]
  | succ k ih =>
    intro f M S g hk hf PS P C V G
    obtain ⟨fu, rfl⟩ : ∃ fu, f = fu + 1 := ⟨f - 1, by omega⟩
    have hR := ru_b C.2.2.1
    have H := C.1
    have p := P.2.2 k (by omega)
    have nk : ¬ nI k < 0 := of_eq_false (n_ltF (a := k) (b := 0) (by omega) (by omega))
    have nd : ¬ nI d ≤ 0 := of_eq_false (n_leF (a := d) (b := 0) (by omega) (by omega))
    show ∃ M', BG_endScope_7 (LG_endScope_7 fu) q h (nI k) M = some M' ∧ _
    unfold eS
    unfold BG_endScope_7
    rw [if_neg nk, ps_ob PS, gd1n, P.2.1, if_neg nd, ps_g2 PS, d_nz (by omega), gd1n, ar_rd (ps_a3 PS) (show k < 24 by omega), gd1n, n_cl (by omega), p.2.2.1]
    by_cases he : (g k).2.2.1 = d
    · rw [if_pos he, if_pos (show nI (g k).2.2.1 = nI d by rw [he]), ar_wr (ps_a3 PS) (show k < 24 by omega), gd1n, ps_g1 PS, d_nz (by omega), gd1n, ar_rd (ps_a2 PS) (show k < 24 by omega), gd1n, hs_ob H, gd1n]
      have C1 : CC (siM M (q + 3) k 0) h ρ β S := CC_q C (by omega) (by omega)
      have PS1 : PSh (siM M (q + 3) k 0) q := PS_2 rfl PS
      have P1 : PG (siM M (q + 3) k 0) q n d (ud g k ((g k).1, (g k).2.1, 0, (g k).2.2.2)) := by
        refine ⟨by rw [giM_un (by omega)]; exact P.1, by rw [giM_un (by omega)]; exact P.2.1, fun r hr => ?_⟩
        have pr := P.2.2 r hr
        rw [giM_un (show q + 1 ≠ q + 3 by omega), giM_un (show q + 2 ≠ q + 3 by omega), giM_ud, ud_at, ud_at]
        by_cases e : r = k
        · rw [if_pos e, if_pos e]
          rw [e] at pr ⊢
          exact ⟨pr.1, pr.2.1, rfl, by show 0 ≤ 7; omega⟩
        · rw [if_neg e, if_neg e]
          exact pr
      have y2 : giM (siM M (q + 3) k 0) (q + 2) k = nI (g k).2.1 := by rw [giM_un (by omega)]; exact p.2.1
      have hy := (G.1 k (by omega)).1
      have hL := isLiving_ok C1 V.1 hy
      have hl := (V.1.2.2.2.2.1 (g k).2.1 (by omega)).1
      have low := low_ok C1 V.1
      obtain ⟨M2, e2, F2, P2, C2⟩ := cE67 (K := LG_endScope_7 fu) (k := k) hh hq PS1 P1 C1 V G (by omega) hn
      obtain ⟨V3, G3⟩ := e1_ok C.2.2.1 V G (show k < n by omega)
      obtain ⟨M3, e3, F3, P3, C3⟩ := ih fu M2 _ _ (by omega) (by omega) (PS_2 F2.1 PS1) P2 C2 V3 G3
      refine ⟨M3, ?_, Fhq_tr (Fhq_q (by omega) (by omega)) (Fhq_tr F2 F3), P3, C3⟩
      rw [y2, hL, bs1n]
      have e2 := e2.trans e3
      unfold whoE at e2
      rcases (show lv S (g k).2.1 = 0 ∨ lv S (g k).2.1 = 1 by omega) with h0 | h1
      · rw [if_neg (by omega)] at e2
        rw [h0, if_pos (show ((nI 0, siM M (q + 3) k 0) : Int32 × Mem).1 = 0 from rfl), hs_ob C1.1, gd1n, low, bs1n]
        exact e2
      · rw [if_pos h1] at e2
        rw [h1, if_neg (show ¬ ((nI 1, siM M (q + 3) k 0) : Int32 × Mem).1 = 0 from (show ¬ nI 1 = 0 by decide)), ps_ob PS1, gd1n, ps_g1 PS1, d_nz (by omega), gd1n, ar_rd (ps_a2 PS1) (show k < 24 by omega), gd1n, y2]
        exact e2
    · rw [if_neg he, if_neg (show ¬ nI (g k).2.2.1 = nI d from fun e => he (n_inj (by have := p.2.2.2; omega) (by omega) e))]
      obtain ⟨M3, e3, F3, P3, C3⟩ := ih fu M S g (by omega) (by omega) PS P C V G
      refine ⟨M3, ?_, F3, P3, C3⟩
      unfold BG_endScope_102
      have : nI k + (-1) = pdI k := pd_s k
      rw [this]
      exact e3
theorem cEnd (hh : 31 < h) (hq : h + 17 < q) (hn : n ≤ 24) (d0 : 0 < d) (d7 : d ≤ 7) (PS : PSh M q) (P : PG M q n d g) (C : CC M h ρ β S) (V : OKS ρ β S) (G : GOK ρ S n g) : ∃ M', fG_endScope q h M = some M' ∧ Fhq h q M M' ∧ PG M' q n (d - 1) (eS ρ d n S g).2 ∧ CC M' h ρ β (eS ρ d n S g).1 := by
  obtain ⟨M1, k1, F1, P1, C1⟩ := cE_loop hh hq hn d0 d7 n 1000000 M S g (Nat.le_refl n) (by omega) PS P C V G
  have PS1 := PS_2 F1.1 PS
  have ps := ps_b PS
  refine ⟨siM M1 q 4 (nI (d - 1)), ?_, Fhq_tr F1 (Fhq_q (by omega) (by omega)), ⟨?_, ?_, fun r hr => ?_⟩, CC_q C1 (by omega) (by omega)⟩
  · have e : nI n - 1 = pdI n := by
      cases n with
      | zero => rfl
      | succ n => rw [l_1, n_sub (by omega)]; rfl
    unfold fG_endScope BG_endScope_108
    rw [ps_ob PS, gd1n, P.1, e, k1, bs1n, ps_ob PS1, gd1n, P1.2.1, l_1, n_sub (by omega)]
  · rw [giM_ud, ud_n _ _ (by omega)]; exact P1.1
  · rw [giM_ud, ud_s]
  · rw [giM_un (by omega), giM_un (by omega), giM_un (by omega)]
    exact P1.2.2 r hr
end CE
