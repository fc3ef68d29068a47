/-! FEED, END -/
def oneB (v : Int32) (d : Nat) : List Nat := if bY v d = 0 then [] else [bY v d]
def bys (v : Int32) : Nat → List Nat
  | 0 => []
  | d + 1 => oneB v d ++ bys v d
def sD : Nat → Int32
  | 0 => -nI 8
  | d + 1 => nI (8 * d)
def TPc (M : Mem) (l : List Nat) : Prop := giM M 2 1 = nI l.length ∧ ∀ i (h : i < l.length), giM M 3 i = nI (l[i]'h)
def TPm (M : Mem) (l : List Nat) : Prop := giM M 1003 2 = nI l.length ∧ ∀ i (h : i < l.length), giM M 1004 i = nI (l[i]'h)
def LOK (l : List Nat) : Prop := l.length ≤ 240 ∧ ∀ x ∈ l, 1 ≤ x ∧ x ≤ 255
section FE
variable {M N M1 : Mem} {β : Nat}
theorem sD_s {d : Nat} (hd : d < 4) : nI (8 * d) + -nI 8 = sD d := by
  rcases (show d = 0 ∨ d = 1 ∨ d = 2 ∨ d = 3 by omega) with rfl | rfl | rfl | rfl <;> decide
theorem sD_0 : (-nI 8 < nI 0) = True := by decide
theorem one_len (v : Int32) (d : Nat) : (oneB v d).length ≤ 1 := by
  unfold oneB
  split <;> simp
theorem bys_len (v : Int32) : ∀ d, (bys v d).length ≤ d
  | 0 => Nat.le_refl _
  | d + 1 => by
    have h1 := one_len v d
    have h2 := bys_len v d
    show (oneB v d ++ bys v d).length ≤ _
    rw [List.length_append]
    omega
theorem one_ok (v : Int32) (d : Nat) : ∀ x ∈ oneB v d, 1 ≤ x ∧ x ≤ 255 := fun x hx => by
  have := bY_lt v d
  unfold oneB at hx
  split at hx
  · cases hx
  · rw [List.mem_singleton] at hx
    omega
theorem sg_loop (v : Int32) : ∀ d f a, d ≤ 4 → d < f → a + d ≤ 1000 → LT_signsIn_5 f v (nI a) (sD d) M = some (nI (a + (bys v d).length), M) := by
  intro d
  induction d with
  | zero =>
    intro f a hd hf ha
    obtain ⟨g, rfl⟩ : ∃ g, f = g + 1 := ⟨f - 1, by omega⟩
    show BT_signsIn_5 (LT_signsIn_5 g) v (nI a) (-nI 8) M = some (nI (a + 0), M)
    simp (disch := omega) only [BT_signsIn_5, gd1, bs1, ↓reduceIte, d_nz, d_nn, or_true, true_or, or_false, false_or, decide_true, Sum.elim_inl, Sum.elim_inr, ↓l_m1, l_0, l_1, l_2, l_3, l_4, l_5, l_6, l_7, l_8, l_9, l_10, l_16, l_17, l_18, l_20, l_23, l_24, l_30, l_31, l_32, l_39, l_40, l_41, l_48, l_57, l_58, l_59, l_60, l_63, l_90, l_97, l_98, l_99, l_100, l_102, l_103, l_104, l_107, l_109, l_112, l_115, l_116, l_117, l_120, l_122, l_126, l_166, l_180, l_240, l_255, l_640, l_999, l_2656, l_3064, l_3704, l_3708, l_3712, l_3713, l_3893, l_155720, l_1000000, n_ltT, n_ltF, n_leT, n_leF, n_eqT, n_eqF, n_eqm, n_eqm', n_mltn, n_mlen, n_nltm, n_nlem, n_mltm, n_mlem, n_add, n_mul, n_sub, n_subm, n_cl, n_ofNat, n_div, n_mod, obM_si, rdI_si, wrI_si, lnI_si, grM_si', tgM_si', obM_sa, rdI_sa, wrI_sa, lnI_sa, grM_sa', tgM_sa', sD_0, Nat.add_zero]
  | succ d ih =>
    intro f a hd hf ha
    obtain ⟨g, rfl⟩ : ∃ g, f = g + 1 := ⟨f - 1, by omega⟩
    show BT_signsIn_5 (LT_signsIn_5 g) v (nI a) (nI (8 * d)) M = some (nI (a + (oneB v d ++ bys v d).length), M)
    have hc := bC v (d := d) (by omega)
    have hs := sD_s (d := d) (by omega)
    have hb := bY_lt v d
    have e0 := ih g a (by omega) (by omega) (by omega)
    have e1 := ih g (a + 1) (by omega) (by omega) (by omega)
    unfold oneB
    by_cases h : bY v d = 0
    · rw [h] at hc
      rw [if_pos h]
      simp (disch := omega) only [BT_signsIn_5, BT_signsIn_25, gd1, bs1, ↓reduceIte, d_nz, d_nn, or_true, true_or, or_false, false_or, decide_true, Sum.elim_inl, Sum.elim_inr, ↓l_m1, l_0, l_1, l_2, l_3, l_4, l_5, l_6, l_7, l_8, l_9, l_10, l_16, l_17, l_18, l_20, l_23, l_24, l_30, l_31, l_32, l_39, l_40, l_41, l_48, l_57, l_58, l_59, l_60, l_63, l_90, l_97, l_98, l_99, l_100, l_102, l_103, l_104, l_107, l_109, l_112, l_115, l_116, l_117, l_120, l_122, l_126, l_166, l_180, l_240, l_255, l_640, l_999, l_2656, l_3064, l_3704, l_3708, l_3712, l_3713, l_3893, l_155720, l_1000000, n_ltT, n_ltF, n_leT, n_leF, n_eqT, n_eqF, n_eqm, n_eqm', n_mltn, n_mlen, n_nltm, n_nlem, n_mltm, n_mlem, n_add, n_mul, n_sub, n_subm, n_cl, n_ofNat, n_div, n_mod, obM_si, rdI_si, wrI_si, lnI_si, grM_si', tgM_si', obM_sa, rdI_sa, wrI_sa, lnI_sa, grM_sa', tgM_sa', hc, hs, Nat.add_zero, e0, List.nil_append]
    · rw [if_neg h]
      simp (disch := omega) only [BT_signsIn_5, BT_signsIn_25, gd1, bs1, ↓reduceIte, d_nz, d_nn, or_true, true_or, or_false, false_or, decide_true, Sum.elim_inl, Sum.elim_inr, ↓l_m1, l_0, l_1, l_2, l_3, l_4, l_5, l_6, l_7, l_8, l_9, l_10, l_16, l_17, l_18, l_20, l_23, l_24, l_30, l_31, l_32, l_39, l_40, l_41, l_48, l_57, l_58, l_59, l_60, l_63, l_90, l_97, l_98, l_99, l_100, l_102, l_103, l_104, l_107, l_109, l_112, l_115, l_116, l_117, l_120, l_122, l_126, l_166, l_180, l_240, l_255, l_640, l_999, l_2656, l_3064, l_3704, l_3708, l_3712, l_3713, l_3893, l_155720, l_1000000, n_ltT, n_ltF, n_leT, n_leF, n_eqT, n_eqF, n_eqm, n_eqm', n_mltn, n_mlen, n_nltm, n_nlem, n_mltm, n_mlem, n_add, n_mul, n_sub, n_subm, n_cl, n_ofNat, n_div, n_mod, obM_si, rdI_si, wrI_si, lnI_si, grM_si', tgM_si', obM_sa, rdI_sa, wrI_sa, lnI_sa, grM_sa', tgM_sa', hc, hs, e1, List.length_append, List.length_singleton, Nat.add_assoc]
theorem signs_ok (A : SHP M) (v : Int32) : fT_signsIn 2 v M = some (nI (bys v 4).length, M) := by
  have e : LT_signsIn_5 1000000 v (nI 0) (nI 24) M = some (nI (0 + (bys v 4).length), M) := sg_loop v 4 1000000 0 (by omega) (by omega) (by omega)
  rw [Nat.zero_add] at e
  simp (disch := omega) only [fT_signsIn, gd1, bs1, ↓reduceIte, d_nz, d_nn, or_true, true_or, or_false, false_or, decide_true, Sum.elim_inl, Sum.elim_inr, ↓l_m1, l_0, l_1, l_2, l_3, l_4, l_5, l_6, l_7, l_8, l_9, l_10, l_16, l_17, l_18, l_20, l_23, l_24, l_30, l_31, l_32, l_39, l_40, l_41, l_48, l_57, l_58, l_59, l_60, l_63, l_90, l_97, l_98, l_99, l_100, l_102, l_103, l_104, l_107, l_109, l_112, l_115, l_116, l_117, l_120, l_122, l_126, l_166, l_180, l_240, l_255, l_640, l_999, l_2656, l_3064, l_3704, l_3708, l_3712, l_3713, l_3893, l_155720, l_1000000, n_ltT, n_ltF, n_leT, n_leF, n_eqT, n_eqF, n_eqm, n_eqm', n_mltn, n_mlen, n_nltm, n_nlem, n_mltm, n_mlem, n_add, n_mul, n_sub, n_subm, n_cl, n_ofNat, n_div, n_mod, obM_si, rdI_si, wrI_si, lnI_si, grM_si', tgM_si', obM_sa, rdI_sa, wrI_sa, lnI_sa, grM_sa', tgM_sa', as_o1 A, as_g1_0 A, as_g1_1 A, as_g1_2 A, as_g1_3 A, as_g1_4 A, as_g1_6 A, as_g1_7 A, as_g1_8 A, as_g1_9 A, as_g1_11 A, as_g1_12 A, as_g1_13 A, as_g1_14 A, as_o2 A, as_g2_0 A, as_t3 A, as_r3 A, as_w3 A, as_l3 A, as_o4 A, as_g4_0 A, as_o5 A, as_g5_0 A, as_g5_1 A, as_t6 A, as_r6 A, as_w6 A, as_l6 A, as_t7 A, as_r7 A, as_w7 A, as_l7 A, as_o8 A, as_g8_0 A, as_g8_1 A, as_t9 A, as_r9 A, as_w9 A, as_l9 A, as_t10 A, as_r10 A, as_w10 A, as_l10 A, as_o28 A, as_g28_0 A, as_g28_1 A, as_g28_2 A, as_t29 A, as_r29 A, as_w29 A, as_l29 A, as_t30 A, as_r30 A, as_w30 A, as_l30 A, as_t31 A, as_r31 A, as_w31 A, as_l31 A, as_o50 A, as_g50_0 A, as_t790 A, as_r790 A, as_w790 A, as_l790 A, as_o791 A, as_g791_0 A, as_g791_1 A, as_g791_2 A, as_o999 A, as_g999_0 A, as_g999_1 A, as_g999_2 A, as_t1000 A, as_r1000 A, as_w1000 A, as_l1000 A, as_t1001 A, as_r1001 A, as_w1001 A, as_l1001 A, as_t1002 A, as_r1002 A, as_w1002 A, as_l1002 A, as_x11 A, as_x51 A, as_x792 A, as_x793 A, as_x794 A, as_t792 A, as_ln792 A, as_s11 A, as_so A, as_sg0 A, as_sg1 A, as_sg2 A, as_sr1 A, as_sr2 A, as_sr3 A, as_p51 A, e]
theorem TPc_cg {l : List Nat} (h : TPc M l) (e1 : giM M1 2 = giM M 2) (e2 : giM M1 3 = giM M 3) : TPc M1 l := by
  unfold TPc
  rw [e1, e2]
  exact h
theorem snoc_at {f g : Nat → Int32} {l : List Nat} {c : Nat} (h : ∀ i (h : i < l.length), f i = nI (l[i]'h)) (e1 : g l.length = nI c) (e2 : ∀ i, i < l.length → g i = f i) : ∀ i (h : i < (l ++ [c]).length), g i = nI ((l ++ [c])[i]'h) := fun i hi => by
  rw [List.length_append, List.length_singleton] at hi
  by_cases e : i < l.length
  · rw [e2 i e, List.getElem_append_left e]
    exact h i e
  · have : i = l.length := by omega
    subst this
    rw [List.getElem_concat_length rfl]
    exact e1
theorem ap_loop (v : Int32) : ∀ d f M l, d ≤ 4 → d < f → SHP M → TPc M l → l.length + (bys v d).length ≤ 240 → ∃ M', LT_append_3 f 2 v (sD d) M = some M' ∧ Fr M M' 2 3 ∧ TPc M' (l ++ bys v d) := by
  intro d
  induction d with
  | zero =>
    intro f M l hd hf A h hl
    obtain ⟨g, rfl⟩ : ∃ g, f = g + 1 := ⟨f - 1, by omega⟩
    refine ⟨M, ?_, Fr_refl _ _ _, by rw [show bys v 0 = [] from rfl, List.append_nil]; exact h⟩
    show BT_append_3 (LT_append_3 g) 2 v (-nI 8) M = some M
    simp (disch := omega) only [BT_append_3, gd1, bs1, ↓reduceIte, d_nz, d_nn, or_true, true_or, or_false, false_or, decide_true, Sum.elim_inl, Sum.elim_inr, ↓l_m1, l_0, l_1, l_2, l_3, l_4, l_5, l_6, l_7, l_8, l_9, l_10, l_16, l_17, l_18, l_20, l_23, l_24, l_30, l_31, l_32, l_39, l_40, l_41, l_48, l_57, l_58, l_59, l_60, l_63, l_90, l_97, l_98, l_99, l_100, l_102, l_103, l_104, l_107, l_109, l_112, l_115, l_116, l_117, l_120, l_122, l_126, l_166, l_180, l_240, l_255, l_640, l_999, l_2656, l_3064, l_3704, l_3708, l_3712, l_3713, l_3893, l_155720, l_1000000, n_ltT, n_ltF, n_leT, n_leF, n_eqT, n_eqF, n_eqm, n_eqm', n_mltn, n_mlen, n_nltm, n_nlem, n_mltm, n_mlem, n_add, n_mul, n_sub, n_subm, n_cl, n_ofNat, n_div, n_mod, obM_si, rdI_si, wrI_si, lnI_si, grM_si', tgM_si', obM_sa, rdI_sa, wrI_sa, lnI_sa, grM_sa', tgM_sa', sD_0]
  | succ d ih =>
    intro f M l hd hf A h hl
    obtain ⟨g, rfl⟩ : ∃ g, f = g + 1 := ⟨f - 1, by omega⟩
    have hl : l.length + (oneB v d ++ bys v d).length ≤ 240 := hl
    rw [List.length_append] at hl
    have hc := bC v (d := d) (by omega)
    have hs := sD_s (d := d) (by omega)
    have hb := bY_lt v d
    have h21 := h.1
    show ∃ M', BT_append_3 (LT_append_3 g) 2 v (nI (8 * d)) M = some M' ∧ Fr M M' 2 3 ∧ TPc M' (l ++ (oneB v d ++ bys v d))
    by_cases hz : bY v d = 0
    · have e : oneB v d = [] := if_pos hz
      rw [e] at hl ⊢
      rw [hz] at hc
      obtain ⟨M', k, F, h'⟩ := ih g M l (by omega) (by omega) A h (by rw [List.length_nil] at hl; omega)
      refine ⟨M', ?_, F, h'⟩
      simp (disch := omega) only [BT_append_3, BT_append_51, gd1, bs1, ↓reduceIte, d_nz, d_nn, or_true, true_or, or_false, false_or, decide_true, Sum.elim_inl, Sum.elim_inr, ↓l_m1, l_0, l_1, l_2, l_3, l_4, l_5, l_6, l_7, l_8, l_9, l_10, l_16, l_17, l_18, l_20, l_23, l_24, l_30, l_31, l_32, l_39, l_40, l_41, l_48, l_57, l_58, l_59, l_60, l_63, l_90, l_97, l_98, l_99, l_100, l_102, l_103, l_104, l_107, l_109, l_112, l_115, l_116, l_117, l_120, l_122, l_126, l_166, l_180, l_240, l_255, l_640, l_999, l_2656, l_3064, l_3704, l_3708, l_3712, l_3713, l_3893, l_155720, l_1000000, n_ltT, n_ltF, n_leT, n_leF, n_eqT, n_eqF, n_eqm, n_eqm', n_mltn, n_mlen, n_nltm, n_nlem, n_mltm, n_mlem, n_add, n_mul, n_sub, n_subm, n_cl, n_ofNat, n_div, n_mod, obM_si, rdI_si, wrI_si, lnI_si, grM_si', tgM_si', obM_sa, rdI_sa, wrI_sa, lnI_sa, grM_sa', tgM_sa', hc, hs, k]
    · have e : oneB v d = [bY v d] := if_neg hz
      rw [e, List.length_singleton] at hl
      rw [e]
      have F1 : Fr M (siM (siM M 3 l.length (nI (bY v d))) 2 1 (nI (l.length + 1))) 2 3 := Fr_tr (M1 := siM M 3 l.length (nI (bY v d))) (Fr_si (by omega) (by omega)) (Fr_si (by omega) (by omega))
      have h1 : TPc (siM (siM M 3 l.length (nI (bY v d))) 2 1 (nI (l.length + 1))) (l ++ [bY v d]) := by
        refine ⟨by rw [giM_ud, ud_s, List.length_append, List.length_singleton], ?_⟩
        rw [giM_un (by omega), giM_ud]
        exact snoc_at h.2 (ud_s _ _ _) (fun i hi => ud_n _ _ (by omega))
      obtain ⟨M', k, F, h'⟩ := ih g _ (l ++ [bY v d]) (by omega) (by omega) (SHP_Fr A F1 (by omega)) h1 (by rw [List.length_append, List.length_singleton]; omega)
      refine ⟨M', ?_, Fr_tr F1 F, by rw [← List.append_assoc]; exact h'⟩
      simp (disch := omega) only [BT_append_3, BT_append_51, gd1, bs1, ↓reduceIte, d_nz, d_nn, or_true, true_or, or_false, false_or, decide_true, Sum.elim_inl, Sum.elim_inr, ↓l_m1, l_0, l_1, l_2, l_3, l_4, l_5, l_6, l_7, l_8, l_9, l_10, l_16, l_17, l_18, l_20, l_23, l_24, l_30, l_31, l_32, l_39, l_40, l_41, l_48, l_57, l_58, l_59, l_60, l_63, l_90, l_97, l_98, l_99, l_100, l_102, l_103, l_104, l_107, l_109, l_112, l_115, l_116, l_117, l_120, l_122, l_126, l_166, l_180, l_240, l_255, l_640, l_999, l_2656, l_3064, l_3704, l_3708, l_3712, l_3713, l_3893, l_155720, l_1000000, n_ltT, n_ltF, n_leT, n_leF, n_eqT, n_eqF, n_eqm, n_eqm', n_mltn, n_mlen, n_nltm, n_nlem, n_mltm, n_mlem, n_add, n_mul, n_sub, n_subm, n_cl, n_ofNat, n_div, n_mod, obM_si, rdI_si, wrI_si, lnI_si, grM_si', tgM_si', obM_sa, rdI_sa, wrI_sa, lnI_sa, grM_sa', tgM_sa', as_o1 A, as_g1_0 A, as_g1_1 A, as_g1_2 A, as_g1_3 A, as_g1_4 A, as_g1_6 A, as_g1_7 A, as_g1_8 A, as_g1_9 A, as_g1_11 A, as_g1_12 A, as_g1_13 A, as_g1_14 A, as_o2 A, as_g2_0 A, as_t3 A, as_r3 A, as_w3 A, as_l3 A, as_o4 A, as_g4_0 A, as_o5 A, as_g5_0 A, as_g5_1 A, as_t6 A, as_r6 A, as_w6 A, as_l6 A, as_t7 A, as_r7 A, as_w7 A, as_l7 A, as_o8 A, as_g8_0 A, as_g8_1 A, as_t9 A, as_r9 A, as_w9 A, as_l9 A, as_t10 A, as_r10 A, as_w10 A, as_l10 A, as_o28 A, as_g28_0 A, as_g28_1 A, as_g28_2 A, as_t29 A, as_r29 A, as_w29 A, as_l29 A, as_t30 A, as_r30 A, as_w30 A, as_l30 A, as_t31 A, as_r31 A, as_w31 A, as_l31 A, as_o50 A, as_g50_0 A, as_t790 A, as_r790 A, as_w790 A, as_l790 A, as_o791 A, as_g791_0 A, as_g791_1 A, as_g791_2 A, as_o999 A, as_g999_0 A, as_g999_1 A, as_g999_2 A, as_t1000 A, as_r1000 A, as_w1000 A, as_l1000 A, as_t1001 A, as_r1001 A, as_w1001 A, as_l1001 A, as_t1002 A, as_r1002 A, as_w1002 A, as_l1002 A, as_x11 A, as_x51 A, as_x792 A, as_x793 A, as_x794 A, as_t792 A, as_ln792 A, as_s11 A, as_so A, as_sg0 A, as_sg1 A, as_sg2 A, as_sr1 A, as_sr2 A, as_sr3 A, as_p51 A, hc, hs, h21, giM_un, k]
theorem app_ok (A : SHP M) {l : List Nat} (h : TPc M l) (v : Int32) (hl : l.length + (bys v 4).length ≤ 240) : ∃ M', fT_append 2 v M = some M' ∧ Fr M M' 2 3 ∧ TPc M' (l ++ bys v 4) := by
  obtain ⟨M', k, F, h'⟩ := ap_loop v 4 1000000 M l (by omega) (by omega) A h hl
  have k : LT_append_3 1000000 2 v (nI 24) M = some M' := k
  refine ⟨M', ?_, F, h'⟩
  simp (disch := omega) only [fT_append, gd1, bs1, ↓reduceIte, d_nz, d_nn, or_true, true_or, or_false, false_or, decide_true, Sum.elim_inl, Sum.elim_inr, ↓l_m1, l_0, l_1, l_2, l_3, l_4, l_5, l_6, l_7, l_8, l_9, l_10, l_16, l_17, l_18, l_20, l_23, l_24, l_30, l_31, l_32, l_39, l_40, l_41, l_48, l_57, l_58, l_59, l_60, l_63, l_90, l_97, l_98, l_99, l_100, l_102, l_103, l_104, l_107, l_109, l_112, l_115, l_116, l_117, l_120, l_122, l_126, l_166, l_180, l_240, l_255, l_640, l_999, l_2656, l_3064, l_3704, l_3708, l_3712, l_3713, l_3893, l_155720, l_1000000, n_ltT, n_ltF, n_leT, n_leF, n_eqT, n_eqF, n_eqm, n_eqm', n_mltn, n_mlen, n_nltm, n_nlem, n_mltm, n_mlem, n_add, n_mul, n_sub, n_subm, n_cl, n_ofNat, n_div, n_mod, obM_si, rdI_si, wrI_si, lnI_si, grM_si', tgM_si', obM_sa, rdI_sa, wrI_sa, lnI_sa, grM_sa', tgM_sa', as_o1 A, as_g1_0 A, as_g1_1 A, as_g1_2 A, as_g1_3 A, as_g1_4 A, as_g1_6 A, as_g1_7 A, as_g1_8 A, as_g1_9 A, as_g1_11 A, as_g1_12 A, as_g1_13 A, as_g1_14 A, as_o2 A, as_g2_0 A, as_t3 A, as_r3 A, as_w3 A, as_l3 A, as_o4 A, as_g4_0 A, as_o5 A, as_g5_0 A, as_g5_1 A, as_t6 A, as_r6 A, as_w6 A, as_l6 A, as_t7 A, as_r7 A, as_w7 A, as_l7 A, as_o8 A, as_g8_0 A, as_g8_1 A, as_t9 A, as_r9 A, as_w9 A, as_l9 A, as_t10 A, as_r10 A, as_w10 A, as_l10 A, as_o28 A, as_g28_0 A, as_g28_1 A, as_g28_2 A, as_t29 A, as_r29 A, as_w29 A, as_l29 A, as_t30 A, as_r30 A, as_w30 A, as_l30 A, as_t31 A, as_r31 A, as_w31 A, as_l31 A, as_o50 A, as_g50_0 A, as_t790 A, as_r790 A, as_w790 A, as_l790 A, as_o791 A, as_g791_0 A, as_g791_1 A, as_g791_2 A, as_o999 A, as_g999_0 A, as_g999_1 A, as_g999_2 A, as_t1000 A, as_r1000 A, as_w1000 A, as_l1000 A, as_t1001 A, as_r1001 A, as_w1001 A, as_l1001 A, as_t1002 A, as_r1002 A, as_w1002 A, as_l1002 A, as_x11 A, as_x51 A, as_x792 A, as_x793 A, as_x794 A, as_t792 A, as_ln792 A, as_s11 A, as_so A, as_sg0 A, as_sg1 A, as_sg2 A, as_sr1 A, as_sr2 A, as_sr3 A, as_p51 A, k]
/-! the reference -/
def vsF (v1 v2 v3 v4 v5 : Int32) (j : Nat) : Int32 := if j = 0 then v1 else if j = 1 then v2 else if j = 2 then v3 else if j = 3 then v4 else v5
variable {v1 v2 v3 v4 v5 : Int32}
theorem byteOf_ok {k : Nat} (hk : k < 20) : fM_byteOf v1 v2 v3 v4 v5 (nI k) M = some (nI (bY (vsF v1 v2 v3 v4 v5 (k / 4)) (3 - k % 4)), M) := by
  have hb := fun v => bM v (d := 3 - k % 4) (by omega)
  have e : 24 - 8 * (k - k / 4 * 4) = 8 * (3 - k % 4) := by omega
  have l12 : (12 : Int32) = nI 12 := rfl
  unfold vsF
  rcases (show k < 4 ∨ (4 ≤ k ∧ k < 8) ∨ (8 ≤ k ∧ k < 12) ∨ (12 ≤ k ∧ k < 16) ∨ 16 ≤ k by omega) with h | h | h | h | h
  · rw [if_pos (by omega)]
    simp (disch := omega) only [fM_byteOf, BM_byteOf_45, gd1, bs1, ↓reduceIte, d_nz, d_nn, or_true, true_or, or_false, false_or, decide_true, Sum.elim_inl, Sum.elim_inr, ↓l_m1, l_0, l_1, l_2, l_3, l_4, l_5, l_6, l_7, l_8, l_9, l_10, l_16, l_17, l_18, l_20, l_23, l_24, l_30, l_31, l_32, l_39, l_40, l_41, l_48, l_57, l_58, l_59, l_60, l_63, l_90, l_97, l_98, l_99, l_100, l_102, l_103, l_104, l_107, l_109, l_112, l_115, l_116, l_117, l_120, l_122, l_126, l_166, l_180, l_240, l_255, l_640, l_999, l_2656, l_3064, l_3704, l_3708, l_3712, l_3713, l_3893, l_155720, l_1000000, n_ltT, n_ltF, n_leT, n_leF, n_eqT, n_eqF, n_eqm, n_eqm', n_mltn, n_mlen, n_nltm, n_nlem, n_mltm, n_mlem, n_add, n_mul, n_sub, n_subm, n_cl, n_ofNat, n_div, n_mod, obM_si, rdI_si, wrI_si, lnI_si, grM_si', tgM_si', obM_sa, rdI_sa, wrI_sa, lnI_sa, grM_sa', tgM_sa', l12, e, hb]
  · rw [if_neg (by omega), if_pos (by omega)]
    simp (disch := omega) only [fM_byteOf, BM_byteOf_45, gd1, bs1, ↓reduceIte, d_nz, d_nn, or_true, true_or, or_false, false_or, decide_true, Sum.elim_inl, Sum.elim_inr, ↓l_m1, l_0, l_1, l_2, l_3, l_4, l_5, l_6, l_7, l_8, l_9, l_10, l_16, l_17, l_18, l_20, l_23, l_24, l_30, l_31, l_32, l_39, l_40, l_41, l_48, l_57, l_58, l_59, l_60, l_63, l_90, l_97, l_98, l_99, l_100, l_102, l_103, l_104, l_107, l_109, l_112, l_115, l_116, l_117, l_120, l_122, l_126, l_166, l_180, l_240, l_255, l_640, l_999, l_2656, l_3064, l_3704, l_3708, l_3712, l_3713, l_3893, l_155720, l_1000000, n_ltT, n_ltF, n_leT, n_leF, n_eqT, n_eqF, n_eqm, n_eqm', n_mltn, n_mlen, n_nltm, n_nlem, n_mltm, n_mlem, n_add, n_mul, n_sub, n_subm, n_cl, n_ofNat, n_div, n_mod, obM_si, rdI_si, wrI_si, lnI_si, grM_si', tgM_si', obM_sa, rdI_sa, wrI_sa, lnI_sa, grM_sa', tgM_sa', l12, e, hb]
  · rw [if_neg (by omega), if_neg (by omega), if_pos (by omega)]
    simp (disch := omega) only [fM_byteOf, BM_byteOf_45, gd1, bs1, ↓reduceIte, d_nz, d_nn, or_true, true_or, or_false, false_or, decide_true, Sum.elim_inl, Sum.elim_inr, ↓l_m1, l_0, l_1, l_2, l_3, l_4, l_5, l_6, l_7, l_8, l_9, l_10, l_16, l_17, l_18, l_20, l_23, l_24, l_30, l_31, l_32, l_39, l_40, l_41, l_48, l_57, l_58, l_59, l_60, l_63, l_90, l_97, l_98, l_99, l_100, l_102, l_103, l_104, l_107, l_109, l_112, l_115, l_116, l_117, l_120, l_122, l_126, l_166, l_180, l_240, l_255, l_640, l_999, l_2656, l_3064, l_3704, l_3708, l_3712, l_3713, l_3893, l_155720, l_1000000, n_ltT, n_ltF, n_leT, n_leF, n_eqT, n_eqF, n_eqm, n_eqm', n_mltn, n_mlen, n_nltm, n_nlem, n_mltm, n_mlem, n_add, n_mul, n_sub, n_subm, n_cl, n_ofNat, n_div, n_mod, obM_si, rdI_si, wrI_si, lnI_si, grM_si', tgM_si', obM_sa, rdI_sa, wrI_sa, lnI_sa, grM_sa', tgM_sa', l12, e, hb]
  · rw [if_neg (by omega), if_neg (by omega), if_neg (by omega), if_pos (by omega)]
    simp (disch := omega) only [fM_byteOf, BM_byteOf_45, gd1, bs1, ↓reduceIte, d_nz, d_nn, or_true, true_or, or_false, false_or, decide_true, Sum.elim_inl, Sum.elim_inr, ↓l_m1, l_0, l_1, l_2, l_3, l_4, l_5, l_6, l_7, l_8, l_9, l_10, l_16, l_17, l_18, l_20, l_23, l_24, l_30, l_31, l_32, l_39, l_40, l_41, l_48, l_57, l_58, l_59, l_60, l_63, l_90, l_97, l_98, l_99, l_100, l_102, l_103, l_104, l_107, l_109, l_112, l_115, l_116, l_117, l_120, l_122, l_126, l_166, l_180, l_240, l_255, l_640, l_999, l_2656, l_3064, l_3704, l_3708, l_3712, l_3713, l_3893, l_155720, l_1000000, n_ltT, n_ltF, n_leT, n_leF, n_eqT, n_eqF, n_eqm, n_eqm', n_mltn, n_mlen, n_nltm, n_nlem, n_mltm, n_mlem, n_add, n_mul, n_sub, n_subm, n_cl, n_ofNat, n_div, n_mod, obM_si, rdI_si, wrI_si, lnI_si, grM_si', tgM_si', obM_sa, rdI_sa, wrI_sa, lnI_sa, grM_sa', tgM_sa', l12, e, hb]
  · rw [if_neg (by omega), if_neg (by omega), if_neg (by omega), if_neg (by omega)]
    simp (disch := omega) only [fM_byteOf, BM_byteOf_45, gd1, bs1, ↓reduceIte, d_nz, d_nn, or_true, true_or, or_false, false_or, decide_true, Sum.elim_inl, Sum.elim_inr, ↓l_m1, l_0, l_1, l_2, l_3, l_4, l_5, l_6, l_7, l_8, l_9, l_10, l_16, l_17, l_18, l_20, l_23, l_24, l_30, l_31, l_32, l_39, l_40, l_41, l_48, l_57, l_58, l_59, l_60, l_63, l_90, l_97, l_98, l_99, l_100, l_102, l_103, l_104, l_107, l_109, l_112, l_115, l_116, l_117, l_120, l_122, l_126, l_166, l_180, l_240, l_255, l_640, l_999, l_2656, l_3064, l_3704, l_3708, l_3712, l_3713, l_3893, l_155720, l_1000000, n_ltT, n_ltF, n_leT, n_leF, n_eqT, n_eqF, n_eqm, n_eqm', n_mltn, n_mlen, n_nltm, n_nlem, n_mltm, n_mlem, n_add, n_mul, n_sub, n_subm, n_cl, n_ofNat, n_div, n_mod, obM_si, rdI_si, wrI_si, lnI_si, grM_si', tgM_si', obM_sa, rdI_sa, wrI_sa, lnI_sa, grM_sa', tgM_sa', l12, e, hb]
def rbs (v1 v2 v3 v4 v5 : Int32) : Nat → List Nat
  | 0 => []
  | d + 1 => oneB (vsF v1 v2 v3 v4 v5 ((19 - d) / 4)) (3 - (19 - d) % 4) ++ rbs v1 v2 v3 v4 v5 d
theorem rbs_20 : rbs v1 v2 v3 v4 v5 20 = bys v1 4 ++ (bys v2 4 ++ (bys v3 4 ++ (bys v4 4 ++ bys v5 4))) := by
  have h : rbs v1 v2 v3 v4 v5 20 = oneB v1 3 ++ (oneB v1 2 ++ (oneB v1 1 ++ (oneB v1 0 ++ (oneB v2 3 ++ (oneB v2 2 ++ (oneB v2 1 ++ (oneB v2 0 ++ (oneB v3 3 ++ (oneB v3 2 ++ (oneB v3 1 ++ (oneB v3 0 ++ (oneB v4 3 ++ (oneB v4 2 ++ (oneB v4 1 ++ (oneB v4 0 ++ (oneB v5 3 ++ (oneB v5 2 ++ (oneB v5 1 ++ (oneB v5 0 ++ []))))))))))))))))))) := rfl
  have g : ∀ v, bys v 4 = oneB v 3 ++ (oneB v 2 ++ (oneB v 1 ++ (oneB v 0 ++ []))) := fun _ => rfl
  rw [h, g, g, g, g, g]
  simp only [List.append_assoc, List.nil_append]
theorem rbs_len : ∀ d, (rbs v1 v2 v3 v4 v5 d).length ≤ d
  | 0 => Nat.le_refl _
  | d + 1 => by
    have h1 := one_len (vsF v1 v2 v3 v4 v5 ((19 - d) / 4)) (3 - (19 - d) % 4)
    have h2 := rbs_len d
    show (oneB _ _ ++ rbs v1 v2 v3 v4 v5 d).length ≤ _
    rw [List.length_append]
    omega
theorem rbs_ok : ∀ d, ∀ x ∈ rbs v1 v2 v3 v4 v5 d, 1 ≤ x ∧ x ≤ 255
  | 0, x, h => by cases h
  | d + 1, x, h => by
    rcases List.mem_append.1 (show x ∈ oneB _ _ ++ rbs v1 v2 v3 v4 v5 d from h) with h | h
    · exact one_ok _ _ x h
    · exact rbs_ok d x h
theorem fd_cnt : ∀ d k f a, k + d = 20 → d < f → a + d ≤ 1000 → LM_feed_6 f 1003 v1 v2 v3 v4 v5 (nI a) (nI k) M = some (nI (a + (rbs v1 v2 v3 v4 v5 d).length), M) := by
  intro d
  induction d with
  | zero =>
    intro k f a hk hf ha
    obtain ⟨g, rfl⟩ : ∃ g, f = g + 1 := ⟨f - 1, by omega⟩
    show BM_feed_6 (LM_feed_6 g) 1003 v1 v2 v3 v4 v5 (nI a) (nI k) M = some (nI (a + 0), M)
    simp (disch := omega) only [BM_feed_6, gd1, bs1, ↓reduceIte, d_nz, d_nn, or_true, true_or, or_false, false_or, decide_true, Sum.elim_inl, Sum.elim_inr, ↓l_m1, l_0, l_1, l_2, l_3, l_4, l_5, l_6, l_7, l_8, l_9, l_10, l_16, l_17, l_18, l_20, l_23, l_24, l_30, l_31, l_32, l_39, l_40, l_41, l_48, l_57, l_58, l_59, l_60, l_63, l_90, l_97, l_98, l_99, l_100, l_102, l_103, l_104, l_107, l_109, l_112, l_115, l_116, l_117, l_120, l_122, l_126, l_166, l_180, l_240, l_255, l_640, l_999, l_2656, l_3064, l_3704, l_3708, l_3712, l_3713, l_3893, l_155720, l_1000000, n_ltT, n_ltF, n_leT, n_leF, n_eqT, n_eqF, n_eqm, n_eqm', n_mltn, n_mlen, n_nltm, n_nlem, n_mltm, n_mlem, n_add, n_mul, n_sub, n_subm, n_cl, n_ofNat, n_div, n_mod, obM_si, rdI_si, wrI_si, lnI_si, grM_si', tgM_si', obM_sa, rdI_sa, wrI_sa, lnI_sa, grM_sa', tgM_sa', Nat.add_zero]
  | succ d ih =>
    intro k f a hk hf ha
    obtain ⟨g, rfl⟩ : ∃ g, f = g + 1 := ⟨f - 1, by omega⟩
    obtain rfl : k = 19 - d := by omega
    have hb := byteOf_ok (M := M) (v1 := v1) (v2 := v2) (v3 := v3) (v4 := v4) (v5 := v5) (k := 19 - d) (by omega)
    show BM_feed_6 (LM_feed_6 g) 1003 v1 v2 v3 v4 v5 (nI a) (nI (19 - d)) M = some (nI (a + (oneB (vsF v1 v2 v3 v4 v5 ((19 - d) / 4)) (3 - (19 - d) % 4) ++ rbs v1 v2 v3 v4 v5 d).length), M)
    have hl := bY_lt (vsF v1 v2 v3 v4 v5 ((19 - d) / 4)) (3 - (19 - d) % 4)
    have e0 := ih (19 - d + 1) g a (by omega) (by omega) (by omega)
    have e1 := ih (19 - d + 1) g (a + 1) (by omega) (by omega) (by omega)
    unfold oneB
    generalize bY (vsF v1 v2 v3 v4 v5 ((19 - d) / 4)) (3 - (19 - d) % 4) = c at hb hl ⊢
    by_cases h : c = 0
    · subst h
      rw [if_pos rfl]
      simp (disch := omega) only [BM_feed_6, BM_feed_35, gd1, bs1, ↓reduceIte, d_nz, d_nn, or_true, true_or, or_false, false_or, decide_true, Sum.elim_inl, Sum.elim_inr, ↓l_m1, l_0, l_1, l_2, l_3, l_4, l_5, l_6, l_7, l_8, l_9, l_10, l_16, l_17, l_18, l_20, l_23, l_24, l_30, l_31, l_32, l_39, l_40, l_41, l_48, l_57, l_58, l_59, l_60, l_63, l_90, l_97, l_98, l_99, l_100, l_102, l_103, l_104, l_107, l_109, l_112, l_115, l_116, l_117, l_120, l_122, l_126, l_166, l_180, l_240, l_255, l_640, l_999, l_2656, l_3064, l_3704, l_3708, l_3712, l_3713, l_3893, l_155720, l_1000000, n_ltT, n_ltF, n_leT, n_leF, n_eqT, n_eqF, n_eqm, n_eqm', n_mltn, n_mlen, n_nltm, n_nlem, n_mltm, n_mlem, n_add, n_mul, n_sub, n_subm, n_cl, n_ofNat, n_div, n_mod, obM_si, rdI_si, wrI_si, lnI_si, grM_si', tgM_si', obM_sa, rdI_sa, wrI_sa, lnI_sa, grM_sa', tgM_sa', hb, Nat.add_zero, e0, List.nil_append]
    · rw [if_neg h]
      simp (disch := omega) only [BM_feed_6, BM_feed_35, gd1, bs1, ↓reduceIte, d_nz, d_nn, or_true, true_or, or_false, false_or, decide_true, Sum.elim_inl, Sum.elim_inr, ↓l_m1, l_0, l_1, l_2, l_3, l_4, l_5, l_6, l_7, l_8, l_9, l_10, l_16, l_17, l_18, l_20, l_23, l_24, l_30, l_31, l_32, l_39, l_40, l_41, l_48, l_57, l_58, l_59, l_60, l_63, l_90, l_97, l_98, l_99, l_100, l_102, l_103, l_104, l_107, l_109, l_112, l_115, l_116, l_117, l_120, l_122, l_126, l_166, l_180, l_240, l_255, l_640, l_999, l_2656, l_3064, l_3704, l_3708, l_3712, l_3713, l_3893, l_155720, l_1000000, n_ltT, n_ltF, n_leT, n_leF, n_eqT, n_eqF, n_eqm, n_eqm', n_mltn, n_mlen, n_nltm, n_nlem, n_mltm, n_mlem, n_add, n_mul, n_sub, n_subm, n_cl, n_ofNat, n_div, n_mod, obM_si, rdI_si, wrI_si, lnI_si, grM_si', tgM_si', obM_sa, rdI_sa, wrI_sa, lnI_sa, grM_sa', tgM_sa', hb, e1, List.length_append, List.length_singleton, Nat.add_assoc]
/-- the reference's tape alone changes -/
def RT (M M1 : Mem) : Prop := M1.2 = M.2 ∧ (∀ a, a ≠ 1003 → a ≠ 1004 → giM M1 a = giM M a) ∧ ∀ k, k ≠ 2 → giM M1 1003 k = giM M 1003 k
theorem RT_tr {M2 : Mem} (h : RT M M1) (g : RT M1 M2) : RT M M2 := ⟨g.1.trans h.1, fun a h1 h2 => (g.2.1 a h1 h2).trans (h.2.1 a h1 h2), fun k hk => (g.2.2 k hk).trans (h.2.2 k hk)⟩
theorem RT_DS (h : RT M M1) : DS M M1 := ⟨h.1, fun a ha => h.2.1 a (by omega) (by omega), by rw [h.2.1 1 (by omega) (by omega)], fun k hk => h.2.2 k (by omega)⟩
theorem fd_put : ∀ d k f M l, k + d = 20 → d < f → MS M → TPm M l → l.length + (rbs v1 v2 v3 v4 v5 d).length ≤ 240 → ∃ M', LM_feed_62 f 1003 v1 v2 v3 v4 v5 (nI k) M = some (nI (l ++ rbs v1 v2 v3 v4 v5 d).length, M') ∧ RT M M' ∧ TPm M' (l ++ rbs v1 v2 v3 v4 v5 d) := by
  intro d
  induction d with
  | zero =>
    intro k f M l hk hf H h hl
    obtain ⟨g, rfl⟩ : ∃ g, f = g + 1 := ⟨f - 1, by omega⟩
    have h1 := h.1
    rw [show rbs v1 v2 v3 v4 v5 0 = [] from rfl, List.append_nil]
    refine ⟨M, ?_, ⟨rfl, fun _ _ _ => rfl, fun _ _ => rfl⟩, h⟩
    show BM_feed_62 (LM_feed_62 g) 1003 v1 v2 v3 v4 v5 (nI k) M = _
    simp (disch := omega) only [BM_feed_62, gd1, bs1, ↓reduceIte, d_nz, d_nn, or_true, true_or, or_false, false_or, decide_true, Sum.elim_inl, Sum.elim_inr, ↓l_m1, l_0, l_1, l_2, l_3, l_4, l_5, l_6, l_7, l_8, l_9, l_10, l_16, l_17, l_18, l_20, l_23, l_24, l_30, l_31, l_32, l_39, l_40, l_41, l_48, l_57, l_58, l_59, l_60, l_63, l_90, l_97, l_98, l_99, l_100, l_102, l_103, l_104, l_107, l_109, l_112, l_115, l_116, l_117, l_120, l_122, l_126, l_166, l_180, l_240, l_255, l_640, l_999, l_2656, l_3064, l_3704, l_3708, l_3712, l_3713, l_3893, l_155720, l_1000000, n_ltT, n_ltF, n_leT, n_leF, n_eqT, n_eqF, n_eqm, n_eqm', n_mltn, n_mlen, n_nltm, n_nlem, n_mltm, n_mlem, n_add, n_mul, n_sub, n_subm, n_cl, n_ofNat, n_div, n_mod, obM_si, rdI_si, wrI_si, lnI_si, grM_si', tgM_si', obM_sa, rdI_sa, wrI_sa, lnI_sa, grM_sa', tgM_sa', ms_ob H, ms_g1 H, ms_g5 H, ms_g6 H, ms_g8 H, ms_g9 H, ms_g11 H, ms_g12 H, ms_g15 H, ms_g16 H, ms_g18 H, ms_g19 H, ms_g20 H, ms_g22 H, ms_g24 H, ms_g27 H, ms_g32 H, ms_g21 H, ms_t1 H, ms_r1 H, ms_w1 H, ms_l1 H, ms_t5 H, ms_r5 H, ms_w5 H, ms_l5 H, ms_t6 H, ms_r6 H, ms_w6 H, ms_l6 H, ms_t8 H, ms_r8 H, ms_w8 H, ms_l8 H, ms_t9 H, ms_r9 H, ms_w9 H, ms_l9 H, ms_t11 H, ms_r11 H, ms_w11 H, ms_l11 H, ms_t12 H, ms_r12 H, ms_w12 H, ms_l12 H, ms_t15 H, ms_r15 H, ms_w15 H, ms_l15 H, ms_t16 H, ms_r16 H, ms_w16 H, ms_l16 H, ms_t18 H, ms_r18 H, ms_w18 H, ms_l18 H, ms_t19 H, ms_r19 H, ms_w19 H, ms_l19 H, ms_t20 H, ms_r20 H, ms_w20 H, ms_l20 H, ms_t22 H, ms_r22 H, ms_w22 H, ms_l22 H, ms_t24 H, ms_r24 H, ms_w24 H, ms_l24 H, ms_t27 H, ms_r27 H, ms_w27 H, ms_l27 H, ms_t32 H, ms_r32 H, ms_w32 H, ms_l32 H, ms_b H, h1]
  | succ d ih =>
    intro k f M l hk hf H h hl
    obtain ⟨g, rfl⟩ : ∃ g, f = g + 1 := ⟨f - 1, by omega⟩
    obtain rfl : k = 19 - d := by omega
    have h2 := h.1
    have hb := byteOf_ok (M := M) (v1 := v1) (v2 := v2) (v3 := v3) (v4 := v4) (v5 := v5) (k := 19 - d) (by omega)
    have hc := bY_lt (vsF v1 v2 v3 v4 v5 ((19 - d) / 4)) (3 - (19 - d) % 4)
    have e0 : rbs v1 v2 v3 v4 v5 (d + 1) = oneB (vsF v1 v2 v3 v4 v5 ((19 - d) / 4)) (3 - (19 - d) % 4) ++ rbs v1 v2 v3 v4 v5 d := rfl
    rw [e0, List.length_append] at hl
    rw [e0]
    show ∃ M', BM_feed_62 (LM_feed_62 g) 1003 v1 v2 v3 v4 v5 (nI (19 - d)) M = _ ∧ _
    unfold oneB at hl ⊢
    generalize bY (vsF v1 v2 v3 v4 v5 ((19 - d) / 4)) (3 - (19 - d) % 4) = c at hb hc hl ⊢
    by_cases hz : c = 0
    · subst hz
      rw [if_pos rfl, List.length_nil] at hl
      rw [if_pos rfl, List.nil_append]
      obtain ⟨M', k, F, h'⟩ := ih (19 - d + 1) g M l (by omega) (by omega) H h (by omega)
      refine ⟨M', ?_, F, h'⟩
      simp (disch := omega) only [BM_feed_62, BM_feed_109, gd1, bs1, ↓reduceIte, d_nz, d_nn, or_true, true_or, or_false, false_or, decide_true, Sum.elim_inl, Sum.elim_inr, ↓l_m1, l_0, l_1, l_2, l_3, l_4, l_5, l_6, l_7, l_8, l_9, l_10, l_16, l_17, l_18, l_20, l_23, l_24, l_30, l_31, l_32, l_39, l_40, l_41, l_48, l_57, l_58, l_59, l_60, l_63, l_90, l_97, l_98, l_99, l_100, l_102, l_103, l_104, l_107, l_109, l_112, l_115, l_116, l_117, l_120, l_122, l_126, l_166, l_180, l_240, l_255, l_640, l_999, l_2656, l_3064, l_3704, l_3708, l_3712, l_3713, l_3893, l_155720, l_1000000, n_ltT, n_ltF, n_leT, n_leF, n_eqT, n_eqF, n_eqm, n_eqm', n_mltn, n_mlen, n_nltm, n_nlem, n_mltm, n_mlem, n_add, n_mul, n_sub, n_subm, n_cl, n_ofNat, n_div, n_mod, obM_si, rdI_si, wrI_si, lnI_si, grM_si', tgM_si', obM_sa, rdI_sa, wrI_sa, lnI_sa, grM_sa', tgM_sa', hb, k]
    · rw [if_neg hz, List.length_singleton] at hl
      rw [if_neg hz]
      have F1 : RT M (siM (siM M 1004 l.length (nI c)) 1003 2 (nI (l.length + 1))) := ⟨rfl, fun a h1 h2 => by rw [giM_un h1, giM_un h2], fun k hk => by rw [giM_ud, ud_n _ _ hk, giM_un (by omega)]⟩
      have h1 : TPm (siM (siM M 1004 l.length (nI c)) 1003 2 (nI (l.length + 1))) (l ++ [c]) := by
        refine ⟨by rw [giM_ud, ud_s, List.length_append, List.length_singleton], ?_⟩
        rw [giM_un (by omega), giM_ud]
        exact snoc_at h.2 (ud_s _ _ _) (fun i hi => ud_n _ _ (by omega))
      obtain ⟨M', k, F, h'⟩ := ih (19 - d + 1) g (siM (siM M 1004 l.length (nI c)) 1003 2 (nI (l.length + 1))) (l ++ [c]) (by omega) (by omega) (MS_2 rfl H) h1 (by rw [List.length_append, List.length_singleton]; omega)
      rw [← List.append_assoc]
      refine ⟨M', ?_, RT_tr F1 F, h'⟩
      simp (disch := omega) only [BM_feed_62, BM_feed_109, gd1, bs1, ↓reduceIte, d_nz, d_nn, or_true, true_or, or_false, false_or, decide_true, Sum.elim_inl, Sum.elim_inr, ↓l_m1, l_0, l_1, l_2, l_3, l_4, l_5, l_6, l_7, l_8, l_9, l_10, l_16, l_17, l_18, l_20, l_23, l_24, l_30, l_31, l_32, l_39, l_40, l_41, l_48, l_57, l_58, l_59, l_60, l_63, l_90, l_97, l_98, l_99, l_100, l_102, l_103, l_104, l_107, l_109, l_112, l_115, l_116, l_117, l_120, l_122, l_126, l_166, l_180, l_240, l_255, l_640, l_999, l_2656, l_3064, l_3704, l_3708, l_3712, l_3713, l_3893, l_155720, l_1000000, n_ltT, n_ltF, n_leT, n_leF, n_eqT, n_eqF, n_eqm, n_eqm', n_mltn, n_mlen, n_nltm, n_nlem, n_mltm, n_mlem, n_add, n_mul, n_sub, n_subm, n_cl, n_ofNat, n_div, n_mod, obM_si, rdI_si, wrI_si, lnI_si, grM_si', tgM_si', obM_sa, rdI_sa, wrI_sa, lnI_sa, grM_sa', tgM_sa', ms_ob H, ms_g1 H, ms_g5 H, ms_g6 H, ms_g8 H, ms_g9 H, ms_g11 H, ms_g12 H, ms_g15 H, ms_g16 H, ms_g18 H, ms_g19 H, ms_g20 H, ms_g22 H, ms_g24 H, ms_g27 H, ms_g32 H, ms_g21 H, ms_t1 H, ms_r1 H, ms_w1 H, ms_l1 H, ms_t5 H, ms_r5 H, ms_w5 H, ms_l5 H, ms_t6 H, ms_r6 H, ms_w6 H, ms_l6 H, ms_t8 H, ms_r8 H, ms_w8 H, ms_l8 H, ms_t9 H, ms_r9 H, ms_w9 H, ms_l9 H, ms_t11 H, ms_r11 H, ms_w11 H, ms_l11 H, ms_t12 H, ms_r12 H, ms_w12 H, ms_l12 H, ms_t15 H, ms_r15 H, ms_w15 H, ms_l15 H, ms_t16 H, ms_r16 H, ms_w16 H, ms_l16 H, ms_t18 H, ms_r18 H, ms_w18 H, ms_l18 H, ms_t19 H, ms_r19 H, ms_w19 H, ms_l19 H, ms_t20 H, ms_r20 H, ms_w20 H, ms_l20 H, ms_t22 H, ms_r22 H, ms_w22 H, ms_l22 H, ms_t24 H, ms_r24 H, ms_w24 H, ms_l24 H, ms_t27 H, ms_r27 H, ms_w27 H, ms_l27 H, ms_t32 H, ms_r32 H, ms_w32 H, ms_l32 H, ms_b H, hb, h2, giM_un, k]
theorem TP_l (h : TP M) : ∃ l, LOK l ∧ TPc M l ∧ TPm M l := by
  obtain ⟨n, hn, h1, h2, h3⟩ := h
  have key : ∀ k, k ≤ n → ∃ l : List Nat, l.length = k ∧ (∀ x ∈ l, 1 ≤ x ∧ x ≤ 255) ∧ (∀ i (h : i < l.length), giM M 3 i = nI (l[i]'h)) ∧ ∀ i (h : i < l.length), giM M 1004 i = nI (l[i]'h) := by
    intro k
    induction k with
    | zero => exact fun _ => ⟨[], rfl, fun _ h => (by cases h), fun _ h => (by cases h), fun _ h => (by cases h)⟩
    | succ k ih =>
      intro hk
      obtain ⟨l, e, g1, g2, g3⟩ := ih (by omega)
      obtain ⟨c, c1, c2, c3, c4⟩ := h3 k (by omega)
      refine ⟨l ++ [c], by rw [List.length_append, List.length_singleton, e], fun x hx => ?_, snoc_at g2 (by rw [e]; exact c3) (fun _ _ => rfl), snoc_at g3 (by rw [e]; exact c4) (fun _ _ => rfl)⟩
      rcases List.mem_append.1 hx with hx | hx
      · exact g1 x hx
      · rw [List.mem_singleton] at hx
        omega
  obtain ⟨l, e, g1, g2, g3⟩ := key n (Nat.le_refl _)
  exact ⟨l, ⟨by omega, g1⟩, ⟨by rw [e]; exact h1, g2⟩, ⟨by rw [e]; exact h2, g3⟩⟩
theorem l_TP {l : List Nat} (h : LOK l) (h1 : TPc M l) (h2 : TPm M l) : TP M := ⟨l.length, h.1, h1.1, h2.1, fun i hi => ⟨l[i], (h.2 _ (List.getElem_mem hi)).1, (h.2 _ (List.getElem_mem hi)).2, h1.2 i hi, h2.2 i hi⟩⟩
theorem TPm_cg {l : List Nat} (h : TPm M l) (e1 : giM M1 1003 2 = giM M 1003 2) (e2 : giM M1 1004 = giM M 1004) : TPm M1 l := by
  unfold TPm
  rw [e1, e2]
  exact h
theorem Fr_DS23 (F : Fr M M1 2 3) : DS M M1 := ⟨F.1, fun a ha => F.2 a (by omega), by rw [F.2 1 (by omega)], fun k hk => by rw [F.2 1003 (by omega)]⟩
theorem a_feed (G : GR M β) (v1 v2 v3 v4 v5 : Int32) : ST2 (fA_feed 1 v1 v2 v3 v4 v5) (fM_feed 1003 v1 v2 v3 v4 v5) M β := by
  have G0 := G
  obtain ⟨A, tp, sc, re, D⟩ := G
  obtain ⟨l, lo, tc, tm⟩ := TP_l tp
  have h20 := rbs_20 (v1 := v1) (v2 := v2) (v3 := v3) (v4 := v4) (v5 := v5)
  have hrl := rbs_len (v1 := v1) (v2 := v2) (v3 := v3) (v4 := v4) (v5 := v5) 20
  have hro := rbs_ok (v1 := v1) (v2 := v2) (v3 := v3) (v4 := v4) (v5 := v5) 20
  have hlen : (rbs v1 v2 v3 v4 v5 20).length = (bys v1 4).length + (bys v2 4).length + (bys v3 4).length + (bys v4 4).length + (bys v5 4).length := by
    rw [h20]
    simp only [List.length_append]
    omega
  have s1 := signs_ok A v1
  have s2 := signs_ok A v2
  have s3 := signs_ok A v3
  have s4 := signs_ok A v4
  have s5 := signs_ok A v5
  have t1 := tc.1
  have u1 := tm.1
  have ll := lo.1
  have c0 : ∀ M, LM_feed_6 1000000 1003 v1 v2 v3 v4 v5 (nI 0) (nI 0) M = some (nI (rbs v1 v2 v3 v4 v5 20).length, M) := fun M => by
    have := fd_cnt (M := M) (v1 := v1) (v2 := v2) (v3 := v3) (v4 := v4) (v5 := v5) 20 0 1000000 0 (by omega) (by omega) (by omega)
    rw [Nat.zero_add] at this
    exact this
  by_cases hb : l.length + (rbs v1 v2 v3 v4 v5 20).length ≤ 240
  · obtain ⟨M1, a1, F1, h1⟩ := app_ok A tc v1 (by omega)
    have A1 := SHP_Fr A F1 (by omega)
    obtain ⟨M2, a2, F2, h2⟩ := app_ok A1 h1 v2 (by rw [List.length_append]; omega)
    have A2 := SHP_Fr A1 F2 (by omega)
    obtain ⟨M3, a3, F3, h3⟩ := app_ok A2 h2 v3 (by rw [List.length_append, List.length_append]; omega)
    have A3 := SHP_Fr A2 F3 (by omega)
    obtain ⟨M4, a4, F4, h4⟩ := app_ok A3 h3 v4 (by rw [List.length_append, List.length_append, List.length_append]; omega)
    have A4 := SHP_Fr A3 F4 (by omega)
    obtain ⟨M5, a5, F5, h5⟩ := app_ok A4 h4 v5 (by rw [List.length_append, List.length_append, List.length_append, List.length_append]; omega)
    have A5 := SHP_Fr A4 F5 (by omega)
    have F : Fr M M5 2 3 := Fr_tr F1 (Fr_tr F2 (Fr_tr F3 (Fr_tr F4 F5)))
    have el : l ++ bys v1 4 ++ bys v2 4 ++ bys v3 4 ++ bys v4 4 ++ bys v5 4 = l ++ rbs v1 v2 v3 v4 v5 20 := by
      rw [h20]
      simp only [List.append_assoc]
    rw [el] at h5
    have t5 := h5.1
    have m5 : TPm M5 l := TPm_cg tm (by rw [F.2 1003 (by omega)]) (F.2 1004 (by omega))
    have H5 := MS_of A5
    obtain ⟨M6, j, R6, h6⟩ := fd_put (v1 := v1) (v2 := v2) (v3 := v3) (v4 := v4) (v5 := v5) 20 0 1000000 M5 l (by omega) (by omega) H5 m5 hb
    have d1 := Fr_DS23 F
    have d2 := DS_tr d1 (RT_DS R6)
    have u5 := m5.1
    have c5 := c0 M5
    have lo2 : LOK (l ++ rbs v1 v2 v3 v4 v5 20) := ⟨by rw [List.length_append]; exact hb, fun x hx => by
      rcases List.mem_append.1 hx with hx | hx
      · exact lo.2 x hx
      · exact hro x hx⟩
    generalize hL : l ++ rbs v1 v2 v3 v4 v5 20 = L at t5 h5 j h6 lo2
    generalize rbs v1 v2 v3 v4 v5 20 = rr at hlen hb c5
    refine ⟨nI L.length, M5, M6, ?_, ?_, ⟨SHP_DS A d2, l_TP lo2 (TPc_cg h5 (R6.2.1 2 (by omega) (by omega)) (R6.2.1 3 (by omega) (by omega))) h6, ?_, RE_DS re d2, DT_DS D d2⟩, A5, XS_DS d1, XS_DS d2⟩
    · simp (disch := omega) only [fA_feed, gd1, bs1, ↓reduceIte, d_nz, d_nn, or_true, true_or, or_false, false_or, decide_true, Sum.elim_inl, Sum.elim_inr, ↓l_m1, l_0, l_1, l_2, l_3, l_4, l_5, l_6, l_7, l_8, l_9, l_10, l_16, l_17, l_18, l_20, l_23, l_24, l_30, l_31, l_32, l_39, l_40, l_41, l_48, l_57, l_58, l_59, l_60, l_63, l_90, l_97, l_98, l_99, l_100, l_102, l_103, l_104, l_107, l_109, l_112, l_115, l_116, l_117, l_120, l_122, l_126, l_166, l_180, l_240, l_255, l_640, l_999, l_2656, l_3064, l_3704, l_3708, l_3712, l_3713, l_3893, l_155720, l_1000000, n_ltT, n_ltF, n_leT, n_leF, n_eqT, n_eqF, n_eqm, n_eqm', n_mltn, n_mlen, n_nltm, n_nlem, n_mltm, n_mlem, n_add, n_mul, n_sub, n_subm, n_cl, n_ofNat, n_div, n_mod, obM_si, rdI_si, wrI_si, lnI_si, grM_si', tgM_si', obM_sa, rdI_sa, wrI_sa, lnI_sa, grM_sa', tgM_sa', as_o1 A, as_g1_0 A, as_g1_1 A, as_g1_2 A, as_g1_3 A, as_g1_4 A, as_g1_6 A, as_g1_7 A, as_g1_8 A, as_g1_9 A, as_g1_11 A, as_g1_12 A, as_g1_13 A, as_g1_14 A, as_o2 A, as_g2_0 A, as_t3 A, as_r3 A, as_w3 A, as_l3 A, as_o4 A, as_g4_0 A, as_o5 A, as_g5_0 A, as_g5_1 A, as_t6 A, as_r6 A, as_w6 A, as_l6 A, as_t7 A, as_r7 A, as_w7 A, as_l7 A, as_o8 A, as_g8_0 A, as_g8_1 A, as_t9 A, as_r9 A, as_w9 A, as_l9 A, as_t10 A, as_r10 A, as_w10 A, as_l10 A, as_o28 A, as_g28_0 A, as_g28_1 A, as_g28_2 A, as_t29 A, as_r29 A, as_w29 A, as_l29 A, as_t30 A, as_r30 A, as_w30 A, as_l30 A, as_t31 A, as_r31 A, as_w31 A, as_l31 A, as_o50 A, as_g50_0 A, as_t790 A, as_r790 A, as_w790 A, as_l790 A, as_o791 A, as_g791_0 A, as_g791_1 A, as_g791_2 A, as_o999 A, as_g999_0 A, as_g999_1 A, as_g999_2 A, as_t1000 A, as_r1000 A, as_w1000 A, as_l1000 A, as_t1001 A, as_r1001 A, as_w1001 A, as_l1001 A, as_t1002 A, as_r1002 A, as_w1002 A, as_l1002 A, as_x11 A, as_x51 A, as_x792 A, as_x793 A, as_x794 A, as_t792 A, as_ln792 A, as_s11 A, as_so A, as_sg0 A, as_sg1 A, as_sg2 A, as_sr1 A, as_sr2 A, as_sr3 A, as_p51 A, as_o1 A1, as_g1_0 A1, as_g1_1 A1, as_g1_2 A1, as_g1_3 A1, as_g1_4 A1, as_g1_6 A1, as_g1_7 A1, as_g1_8 A1, as_g1_9 A1, as_g1_11 A1, as_g1_12 A1, as_g1_13 A1, as_g1_14 A1, as_o2 A1, as_g2_0 A1, as_t3 A1, as_r3 A1, as_w3 A1, as_l3 A1, as_o4 A1, as_g4_0 A1, as_o5 A1, as_g5_0 A1, as_g5_1 A1, as_t6 A1, as_r6 A1, as_w6 A1, as_l6 A1, as_t7 A1, as_r7 A1, as_w7 A1, as_l7 A1, as_o8 A1, as_g8_0 A1, as_g8_1 A1, as_t9 A1, as_r9 A1, as_w9 A1, as_l9 A1, as_t10 A1, as_r10 A1, as_w10 A1, as_l10 A1, as_o28 A1, as_g28_0 A1, as_g28_1 A1, as_g28_2 A1, as_t29 A1, as_r29 A1, as_w29 A1, as_l29 A1, as_t30 A1, as_r30 A1, as_w30 A1, as_l30 A1, as_t31 A1, as_r31 A1, as_w31 A1, as_l31 A1, as_o50 A1, as_g50_0 A1, as_t790 A1, as_r790 A1, as_w790 A1, as_l790 A1, as_o791 A1, as_g791_0 A1, as_g791_1 A1, as_g791_2 A1, as_o999 A1, as_g999_0 A1, as_g999_1 A1, as_g999_2 A1, as_t1000 A1, as_r1000 A1, as_w1000 A1, as_l1000 A1, as_t1001 A1, as_r1001 A1, as_w1001 A1, as_l1001 A1, as_t1002 A1, as_r1002 A1, as_w1002 A1, as_l1002 A1, as_x11 A1, as_x51 A1, as_x792 A1, as_x793 A1, as_x794 A1, as_t792 A1, as_ln792 A1, as_s11 A1, as_so A1, as_sg0 A1, as_sg1 A1, as_sg2 A1, as_sr1 A1, as_sr2 A1, as_sr3 A1, as_p51 A1, as_o1 A2, as_g1_0 A2, as_g1_1 A2, as_g1_2 A2, as_g1_3 A2, as_g1_4 A2, as_g1_6 A2, as_g1_7 A2, as_g1_8 A2, as_g1_9 A2, as_g1_11 A2, as_g1_12 A2, as_g1_13 A2, as_g1_14 A2, as_o2 A2, as_g2_0 A2, as_t3 A2, as_r3 A2, as_w3 A2, as_l3 A2, as_o4 A2, as_g4_0 A2, as_o5 A2, as_g5_0 A2, as_g5_1 A2, as_t6 A2, as_r6 A2, as_w6 A2, as_l6 A2, as_t7 A2, as_r7 A2, as_w7 A2, as_l7 A2, as_o8 A2, as_g8_0 A2, as_g8_1 A2, as_t9 A2, as_r9 A2, as_w9 A2, as_l9 A2, as_t10 A2, as_r10 A2, as_w10 A2, as_l10 A2, as_o28 A2, as_g28_0 A2, as_g28_1 A2, as_g28_2 A2, as_t29 A2, as_r29 A2, as_w29 A2, as_l29 A2, as_t30 A2, as_r30 A2, as_w30 A2, as_l30 A2, as_t31 A2, as_r31 A2, as_w31 A2, as_l31 A2, as_o50 A2, as_g50_0 A2, as_t790 A2, as_r790 A2, as_w790 A2, as_l790 A2, as_o791 A2, as_g791_0 A2, as_g791_1 A2, as_g791_2 A2, as_o999 A2, as_g999_0 A2, as_g999_1 A2, as_g999_2 A2, as_t1000 A2, as_r1000 A2, as_w1000 A2, as_l1000 A2, as_t1001 A2, as_r1001 A2, as_w1001 A2, as_l1001 A2, as_t1002 A2, as_r1002 A2, as_w1002 A2, as_l1002 A2, as_x11 A2, as_x51 A2, as_x792 A2, as_x793 A2, as_x794 A2, as_t792 A2, as_ln792 A2, as_s11 A2, as_so A2, as_sg0 A2, as_sg1 A2, as_sg2 A2, as_sr1 A2, as_sr2 A2, as_sr3 A2, as_p51 A2, as_o1 A3, as_g1_0 A3, as_g1_1 A3, as_g1_2 A3, as_g1_3 A3, as_g1_4 A3, as_g1_6 A3, as_g1_7 A3, as_g1_8 A3, as_g1_9 A3, as_g1_11 A3, as_g1_12 A3, as_g1_13 A3, as_g1_14 A3, as_o2 A3, as_g2_0 A3, as_t3 A3, as_r3 A3, as_w3 A3, as_l3 A3, as_o4 A3, as_g4_0 A3, as_o5 A3, as_g5_0 A3, as_g5_1 A3, as_t6 A3, as_r6 A3, as_w6 A3, as_l6 A3, as_t7 A3, as_r7 A3, as_w7 A3, as_l7 A3, as_o8 A3, as_g8_0 A3, as_g8_1 A3, as_t9 A3, as_r9 A3, as_w9 A3, as_l9 A3, as_t10 A3, as_r10 A3, as_w10 A3, as_l10 A3, as_o28 A3, as_g28_0 A3, as_g28_1 A3, as_g28_2 A3, as_t29 A3, as_r29 A3, as_w29 A3, as_l29 A3, as_t30 A3, as_r30 A3, as_w30 A3, as_l30 A3, as_t31 A3, as_r31 A3, as_w31 A3, as_l31 A3, as_o50 A3, as_g50_0 A3, as_t790 A3, as_r790 A3, as_w790 A3, as_l790 A3, as_o791 A3, as_g791_0 A3, as_g791_1 A3, as_g791_2 A3, as_o999 A3, as_g999_0 A3, as_g999_1 A3, as_g999_2 A3, as_t1000 A3, as_r1000 A3, as_w1000 A3, as_l1000 A3, as_t1001 A3, as_r1001 A3, as_w1001 A3, as_l1001 A3, as_t1002 A3, as_r1002 A3, as_w1002 A3, as_l1002 A3, as_x11 A3, as_x51 A3, as_x792 A3, as_x793 A3, as_x794 A3, as_t792 A3, as_ln792 A3, as_s11 A3, as_so A3, as_sg0 A3, as_sg1 A3, as_sg2 A3, as_sr1 A3, as_sr2 A3, as_sr3 A3, as_p51 A3, as_o1 A4, as_g1_0 A4, as_g1_1 A4, as_g1_2 A4, as_g1_3 A4, as_g1_4 A4, as_g1_6 A4, as_g1_7 A4, as_g1_8 A4, as_g1_9 A4, as_g1_11 A4, as_g1_12 A4, as_g1_13 A4, as_g1_14 A4, as_o2 A4, as_g2_0 A4, as_t3 A4, as_r3 A4, as_w3 A4, as_l3 A4, as_o4 A4, as_g4_0 A4, as_o5 A4, as_g5_0 A4, as_g5_1 A4, as_t6 A4, as_r6 A4, as_w6 A4, as_l6 A4, as_t7 A4, as_r7 A4, as_w7 A4, as_l7 A4, as_o8 A4, as_g8_0 A4, as_g8_1 A4, as_t9 A4, as_r9 A4, as_w9 A4, as_l9 A4, as_t10 A4, as_r10 A4, as_w10 A4, as_l10 A4, as_o28 A4, as_g28_0 A4, as_g28_1 A4, as_g28_2 A4, as_t29 A4, as_r29 A4, as_w29 A4, as_l29 A4, as_t30 A4, as_r30 A4, as_w30 A4, as_l30 A4, as_t31 A4, as_r31 A4, as_w31 A4, as_l31 A4, as_o50 A4, as_g50_0 A4, as_t790 A4, as_r790 A4, as_w790 A4, as_l790 A4, as_o791 A4, as_g791_0 A4, as_g791_1 A4, as_g791_2 A4, as_o999 A4, as_g999_0 A4, as_g999_1 A4, as_g999_2 A4, as_t1000 A4, as_r1000 A4, as_w1000 A4, as_l1000 A4, as_t1001 A4, as_r1001 A4, as_w1001 A4, as_l1001 A4, as_t1002 A4, as_r1002 A4, as_w1002 A4, as_l1002 A4, as_x11 A4, as_x51 A4, as_x792 A4, as_x793 A4, as_x794 A4, as_t792 A4, as_ln792 A4, as_s11 A4, as_so A4, as_sg0 A4, as_sg1 A4, as_sg2 A4, as_sr1 A4, as_sr2 A4, as_sr3 A4, as_p51 A4, as_o1 A5, as_g1_0 A5, as_g1_1 A5, as_g1_2 A5, as_g1_3 A5, as_g1_4 A5, as_g1_6 A5, as_g1_7 A5, as_g1_8 A5, as_g1_9 A5, as_g1_11 A5, as_g1_12 A5, as_g1_13 A5, as_g1_14 A5, as_o2 A5, as_g2_0 A5, as_t3 A5, as_r3 A5, as_w3 A5, as_l3 A5, as_o4 A5, as_g4_0 A5, as_o5 A5, as_g5_0 A5, as_g5_1 A5, as_t6 A5, as_r6 A5, as_w6 A5, as_l6 A5, as_t7 A5, as_r7 A5, as_w7 A5, as_l7 A5, as_o8 A5, as_g8_0 A5, as_g8_1 A5, as_t9 A5, as_r9 A5, as_w9 A5, as_l9 A5, as_t10 A5, as_r10 A5, as_w10 A5, as_l10 A5, as_o28 A5, as_g28_0 A5, as_g28_1 A5, as_g28_2 A5, as_t29 A5, as_r29 A5, as_w29 A5, as_l29 A5, as_t30 A5, as_r30 A5, as_w30 A5, as_l30 A5, as_t31 A5, as_r31 A5, as_w31 A5, as_l31 A5, as_o50 A5, as_g50_0 A5, as_t790 A5, as_r790 A5, as_w790 A5, as_l790 A5, as_o791 A5, as_g791_0 A5, as_g791_1 A5, as_g791_2 A5, as_o999 A5, as_g999_0 A5, as_g999_1 A5, as_g999_2 A5, as_t1000 A5, as_r1000 A5, as_w1000 A5, as_l1000 A5, as_t1001 A5, as_r1001 A5, as_w1001 A5, as_l1001 A5, as_t1002 A5, as_r1002 A5, as_w1002 A5, as_l1002 A5, as_x11 A5, as_x51 A5, as_x792 A5, as_x793 A5, as_x794 A5, as_t792 A5, as_ln792 A5, as_s11 A5, as_so A5, as_sg0 A5, as_sg1 A5, as_sg2 A5, as_sr1 A5, as_sr2 A5, as_sr3 A5, as_p51 A5, s1, s2, s3, s4, s5, t1, a1, a2, a3, a4, a5, t5]
    · simp (disch := omega) only [fM_feed, gd1, bs1, ↓reduceIte, d_nz, d_nn, or_true, true_or, or_false, false_or, decide_true, Sum.elim_inl, Sum.elim_inr, ↓l_m1, l_0, l_1, l_2, l_3, l_4, l_5, l_6, l_7, l_8, l_9, l_10, l_16, l_17, l_18, l_20, l_23, l_24, l_30, l_31, l_32, l_39, l_40, l_41, l_48, l_57, l_58, l_59, l_60, l_63, l_90, l_97, l_98, l_99, l_100, l_102, l_103, l_104, l_107, l_109, l_112, l_115, l_116, l_117, l_120, l_122, l_126, l_166, l_180, l_240, l_255, l_640, l_999, l_2656, l_3064, l_3704, l_3708, l_3712, l_3713, l_3893, l_155720, l_1000000, n_ltT, n_ltF, n_leT, n_leF, n_eqT, n_eqF, n_eqm, n_eqm', n_mltn, n_mlen, n_nltm, n_nlem, n_mltm, n_mlem, n_add, n_mul, n_sub, n_subm, n_cl, n_ofNat, n_div, n_mod, obM_si, rdI_si, wrI_si, lnI_si, grM_si', tgM_si', obM_sa, rdI_sa, wrI_sa, lnI_sa, grM_sa', tgM_sa', ms_ob H5, ms_g1 H5, ms_g5 H5, ms_g6 H5, ms_g8 H5, ms_g9 H5, ms_g11 H5, ms_g12 H5, ms_g15 H5, ms_g16 H5, ms_g18 H5, ms_g19 H5, ms_g20 H5, ms_g22 H5, ms_g24 H5, ms_g27 H5, ms_g32 H5, ms_g21 H5, ms_t1 H5, ms_r1 H5, ms_w1 H5, ms_l1 H5, ms_t5 H5, ms_r5 H5, ms_w5 H5, ms_l5 H5, ms_t6 H5, ms_r6 H5, ms_w6 H5, ms_l6 H5, ms_t8 H5, ms_r8 H5, ms_w8 H5, ms_l8 H5, ms_t9 H5, ms_r9 H5, ms_w9 H5, ms_l9 H5, ms_t11 H5, ms_r11 H5, ms_w11 H5, ms_l11 H5, ms_t12 H5, ms_r12 H5, ms_w12 H5, ms_l12 H5, ms_t15 H5, ms_r15 H5, ms_w15 H5, ms_l15 H5, ms_t16 H5, ms_r16 H5, ms_w16 H5, ms_l16 H5, ms_t18 H5, ms_r18 H5, ms_w18 H5, ms_l18 H5, ms_t19 H5, ms_r19 H5, ms_w19 H5, ms_l19 H5, ms_t20 H5, ms_r20 H5, ms_w20 H5, ms_l20 H5, ms_t22 H5, ms_r22 H5, ms_w22 H5, ms_l22 H5, ms_t24 H5, ms_r24 H5, ms_w24 H5, ms_l24 H5, ms_t27 H5, ms_r27 H5, ms_w27 H5, ms_l27 H5, ms_t32 H5, ms_r32 H5, ms_w32 H5, ms_l32 H5, ms_b H5, c5, u5, j]
    · exact SC_cg sc (by rw [R6.2.1 1 (by omega) (by omega), F.2 1 (by omega)]) (fun a h1 h2 => by rw [R6.2.1 a (by omega) (by omega), F.2 a (by omega)]) (by rw [R6.2.2 13 (by omega), F.2 1003 (by omega)]) (by rw [R6.2.1 1009 (by omega) (by omega), F.2 1009 (by omega)]) (by rw [R6.2.1 1010 (by omega) (by omega), F.2 1010 (by omega)])
  · have c1 := c0 M
    have H := MS_of A
    generalize rbs v1 v2 v3 v4 v5 20 = rr at hlen hb c1 hrl
    refine ST2_SA G0 ⟨mI, ?_, ?_⟩
    · simp (disch := omega) only [fA_feed, gd1, bs1, ↓reduceIte, d_nz, d_nn, or_true, true_or, or_false, false_or, decide_true, Sum.elim_inl, Sum.elim_inr, ↓l_m1, l_0, l_1, l_2, l_3, l_4, l_5, l_6, l_7, l_8, l_9, l_10, l_16, l_17, l_18, l_20, l_23, l_24, l_30, l_31, l_32, l_39, l_40, l_41, l_48, l_57, l_58, l_59, l_60, l_63, l_90, l_97, l_98, l_99, l_100, l_102, l_103, l_104, l_107, l_109, l_112, l_115, l_116, l_117, l_120, l_122, l_126, l_166, l_180, l_240, l_255, l_640, l_999, l_2656, l_3064, l_3704, l_3708, l_3712, l_3713, l_3893, l_155720, l_1000000, n_ltT, n_ltF, n_leT, n_leF, n_eqT, n_eqF, n_eqm, n_eqm', n_mltn, n_mlen, n_nltm, n_nlem, n_mltm, n_mlem, n_add, n_mul, n_sub, n_subm, n_cl, n_ofNat, n_div, n_mod, obM_si, rdI_si, wrI_si, lnI_si, grM_si', tgM_si', obM_sa, rdI_sa, wrI_sa, lnI_sa, grM_sa', tgM_sa', as_o1 A, as_g1_0 A, as_g1_1 A, as_g1_2 A, as_g1_3 A, as_g1_4 A, as_g1_6 A, as_g1_7 A, as_g1_8 A, as_g1_9 A, as_g1_11 A, as_g1_12 A, as_g1_13 A, as_g1_14 A, as_o2 A, as_g2_0 A, as_t3 A, as_r3 A, as_w3 A, as_l3 A, as_o4 A, as_g4_0 A, as_o5 A, as_g5_0 A, as_g5_1 A, as_t6 A, as_r6 A, as_w6 A, as_l6 A, as_t7 A, as_r7 A, as_w7 A, as_l7 A, as_o8 A, as_g8_0 A, as_g8_1 A, as_t9 A, as_r9 A, as_w9 A, as_l9 A, as_t10 A, as_r10 A, as_w10 A, as_l10 A, as_o28 A, as_g28_0 A, as_g28_1 A, as_g28_2 A, as_t29 A, as_r29 A, as_w29 A, as_l29 A, as_t30 A, as_r30 A, as_w30 A, as_l30 A, as_t31 A, as_r31 A, as_w31 A, as_l31 A, as_o50 A, as_g50_0 A, as_t790 A, as_r790 A, as_w790 A, as_l790 A, as_o791 A, as_g791_0 A, as_g791_1 A, as_g791_2 A, as_o999 A, as_g999_0 A, as_g999_1 A, as_g999_2 A, as_t1000 A, as_r1000 A, as_w1000 A, as_l1000 A, as_t1001 A, as_r1001 A, as_w1001 A, as_l1001 A, as_t1002 A, as_r1002 A, as_w1002 A, as_l1002 A, as_x11 A, as_x51 A, as_x792 A, as_x793 A, as_x794 A, as_t792 A, as_ln792 A, as_s11 A, as_so A, as_sg0 A, as_sg1 A, as_sg2 A, as_sr1 A, as_sr2 A, as_sr3 A, as_p51 A, s1, s2, s3, s4, s5, t1]
    · simp (disch := omega) only [fM_feed, gd1, bs1, ↓reduceIte, d_nz, d_nn, or_true, true_or, or_false, false_or, decide_true, Sum.elim_inl, Sum.elim_inr, ↓l_m1, l_0, l_1, l_2, l_3, l_4, l_5, l_6, l_7, l_8, l_9, l_10, l_16, l_17, l_18, l_20, l_23, l_24, l_30, l_31, l_32, l_39, l_40, l_41, l_48, l_57, l_58, l_59, l_60, l_63, l_90, l_97, l_98, l_99, l_100, l_102, l_103, l_104, l_107, l_109, l_112, l_115, l_116, l_117, l_120, l_122, l_126, l_166, l_180, l_240, l_255, l_640, l_999, l_2656, l_3064, l_3704, l_3708, l_3712, l_3713, l_3893, l_155720, l_1000000, n_ltT, n_ltF, n_leT, n_leF, n_eqT, n_eqF, n_eqm, n_eqm', n_mltn, n_mlen, n_nltm, n_nlem, n_mltm, n_mlem, n_add, n_mul, n_sub, n_subm, n_cl, n_ofNat, n_div, n_mod, obM_si, rdI_si, wrI_si, lnI_si, grM_si', tgM_si', obM_sa, rdI_sa, wrI_sa, lnI_sa, grM_sa', tgM_sa', ms_ob H, ms_g1 H, ms_g5 H, ms_g6 H, ms_g8 H, ms_g9 H, ms_g11 H, ms_g12 H, ms_g15 H, ms_g16 H, ms_g18 H, ms_g19 H, ms_g20 H, ms_g22 H, ms_g24 H, ms_g27 H, ms_g32 H, ms_g21 H, ms_t1 H, ms_r1 H, ms_w1 H, ms_l1 H, ms_t5 H, ms_r5 H, ms_w5 H, ms_l5 H, ms_t6 H, ms_r6 H, ms_w6 H, ms_l6 H, ms_t8 H, ms_r8 H, ms_w8 H, ms_l8 H, ms_t9 H, ms_r9 H, ms_w9 H, ms_l9 H, ms_t11 H, ms_r11 H, ms_w11 H, ms_l11 H, ms_t12 H, ms_r12 H, ms_w12 H, ms_l12 H, ms_t15 H, ms_r15 H, ms_w15 H, ms_l15 H, ms_t16 H, ms_r16 H, ms_w16 H, ms_l16 H, ms_t18 H, ms_r18 H, ms_w18 H, ms_l18 H, ms_t19 H, ms_r19 H, ms_w19 H, ms_l19 H, ms_t20 H, ms_r20 H, ms_w20 H, ms_l20 H, ms_t22 H, ms_r22 H, ms_w22 H, ms_l22 H, ms_t24 H, ms_r24 H, ms_w24 H, ms_l24 H, ms_t27 H, ms_r27 H, ms_w27 H, ms_l27 H, ms_t32 H, ms_r32 H, ms_w32 H, ms_l32 H, ms_b H, c1, u1]
theorem a_end (G : GR M β) (v : Int32) : ST2 (fA_end 1 v) (fM_end 1003 v) M β := by
  have G0 := G
  obtain ⟨A, tp, sc, re, D⟩ := G
  obtain ⟨l, lo, tc, tm⟩ := TP_l tp
  have t1 := tc.1
  have u1 := tm.1
  have ll := lo.1
  have H := MS_of A
  rcases sp v (k := l.length + 1) (by omega) with hv | ⟨n, hn, rfl⟩
  · have i1 := in_Fm (M := M) (k := l.length) (by omega) hv
    refine ST2_SA G0 ⟨nI 0, ?_, ?_⟩
    · by_cases h1 : v < nI 0
      · simp (disch := omega) only [fA_end, BA_end_15, gd1, bs1, ↓reduceIte, d_nz, d_nn, or_true, true_or, or_false, false_or, decide_true, Sum.elim_inl, Sum.elim_inr, ↓l_m1, l_0, l_1, l_2, l_3, l_4, l_5, l_6, l_7, l_8, l_9, l_10, l_16, l_17, l_18, l_20, l_23, l_24, l_30, l_31, l_32, l_39, l_40, l_41, l_48, l_57, l_58, l_59, l_60, l_63, l_90, l_97, l_98, l_99, l_100, l_102, l_103, l_104, l_107, l_109, l_112, l_115, l_116, l_117, l_120, l_122, l_126, l_166, l_180, l_240, l_255, l_640, l_999, l_2656, l_3064, l_3704, l_3708, l_3712, l_3713, l_3893, l_155720, l_1000000, n_ltT, n_ltF, n_leT, n_leF, n_eqT, n_eqF, n_eqm, n_eqm', n_mltn, n_mlen, n_nltm, n_nlem, n_mltm, n_mlem, n_add, n_mul, n_sub, n_subm, n_cl, n_ofNat, n_div, n_mod, obM_si, rdI_si, wrI_si, lnI_si, grM_si', tgM_si', obM_sa, rdI_sa, wrI_sa, lnI_sa, grM_sa', tgM_sa', as_o1 A, as_g1_0 A, as_g1_1 A, as_g1_2 A, as_g1_3 A, as_g1_4 A, as_g1_6 A, as_g1_7 A, as_g1_8 A, as_g1_9 A, as_g1_11 A, as_g1_12 A, as_g1_13 A, as_g1_14 A, as_o2 A, as_g2_0 A, as_t3 A, as_r3 A, as_w3 A, as_l3 A, as_o4 A, as_g4_0 A, as_o5 A, as_g5_0 A, as_g5_1 A, as_t6 A, as_r6 A, as_w6 A, as_l6 A, as_t7 A, as_r7 A, as_w7 A, as_l7 A, as_o8 A, as_g8_0 A, as_g8_1 A, as_t9 A, as_r9 A, as_w9 A, as_l9 A, as_t10 A, as_r10 A, as_w10 A, as_l10 A, as_o28 A, as_g28_0 A, as_g28_1 A, as_g28_2 A, as_t29 A, as_r29 A, as_w29 A, as_l29 A, as_t30 A, as_r30 A, as_w30 A, as_l30 A, as_t31 A, as_r31 A, as_w31 A, as_l31 A, as_o50 A, as_g50_0 A, as_t790 A, as_r790 A, as_w790 A, as_l790 A, as_o791 A, as_g791_0 A, as_g791_1 A, as_g791_2 A, as_o999 A, as_g999_0 A, as_g999_1 A, as_g999_2 A, as_t1000 A, as_r1000 A, as_w1000 A, as_l1000 A, as_t1001 A, as_r1001 A, as_w1001 A, as_l1001 A, as_t1002 A, as_r1002 A, as_w1002 A, as_l1002 A, as_x11 A, as_x51 A, as_x792 A, as_x793 A, as_x794 A, as_t792 A, as_ln792 A, as_s11 A, as_so A, as_sg0 A, as_sg1 A, as_sg2 A, as_sr1 A, as_sr2 A, as_sr3 A, as_p51 A, h1]
      · have h2 := le_F (k := l.length) (by omega) (hv.resolve_left h1)
        simp (disch := omega) only [fA_end, BA_end_15, gd1, bs1, ↓reduceIte, d_nz, d_nn, or_true, true_or, or_false, false_or, decide_true, Sum.elim_inl, Sum.elim_inr, ↓l_m1, l_0, l_1, l_2, l_3, l_4, l_5, l_6, l_7, l_8, l_9, l_10, l_16, l_17, l_18, l_20, l_23, l_24, l_30, l_31, l_32, l_39, l_40, l_41, l_48, l_57, l_58, l_59, l_60, l_63, l_90, l_97, l_98, l_99, l_100, l_102, l_103, l_104, l_107, l_109, l_112, l_115, l_116, l_117, l_120, l_122, l_126, l_166, l_180, l_240, l_255, l_640, l_999, l_2656, l_3064, l_3704, l_3708, l_3712, l_3713, l_3893, l_155720, l_1000000, n_ltT, n_ltF, n_leT, n_leF, n_eqT, n_eqF, n_eqm, n_eqm', n_mltn, n_mlen, n_nltm, n_nlem, n_mltm, n_mlem, n_add, n_mul, n_sub, n_subm, n_cl, n_ofNat, n_div, n_mod, obM_si, rdI_si, wrI_si, lnI_si, grM_si', tgM_si', obM_sa, rdI_sa, wrI_sa, lnI_sa, grM_sa', tgM_sa', as_o1 A, as_g1_0 A, as_g1_1 A, as_g1_2 A, as_g1_3 A, as_g1_4 A, as_g1_6 A, as_g1_7 A, as_g1_8 A, as_g1_9 A, as_g1_11 A, as_g1_12 A, as_g1_13 A, as_g1_14 A, as_o2 A, as_g2_0 A, as_t3 A, as_r3 A, as_w3 A, as_l3 A, as_o4 A, as_g4_0 A, as_o5 A, as_g5_0 A, as_g5_1 A, as_t6 A, as_r6 A, as_w6 A, as_l6 A, as_t7 A, as_r7 A, as_w7 A, as_l7 A, as_o8 A, as_g8_0 A, as_g8_1 A, as_t9 A, as_r9 A, as_w9 A, as_l9 A, as_t10 A, as_r10 A, as_w10 A, as_l10 A, as_o28 A, as_g28_0 A, as_g28_1 A, as_g28_2 A, as_t29 A, as_r29 A, as_w29 A, as_l29 A, as_t30 A, as_r30 A, as_w30 A, as_l30 A, as_t31 A, as_r31 A, as_w31 A, as_l31 A, as_o50 A, as_g50_0 A, as_t790 A, as_r790 A, as_w790 A, as_l790 A, as_o791 A, as_g791_0 A, as_g791_1 A, as_g791_2 A, as_o999 A, as_g999_0 A, as_g999_1 A, as_g999_2 A, as_t1000 A, as_r1000 A, as_w1000 A, as_l1000 A, as_t1001 A, as_r1001 A, as_w1001 A, as_l1001 A, as_t1002 A, as_r1002 A, as_w1002 A, as_l1002 A, as_x11 A, as_x51 A, as_x792 A, as_x793 A, as_x794 A, as_t792 A, as_ln792 A, as_s11 A, as_so A, as_sg0 A, as_sg1 A, as_sg2 A, as_sr1 A, as_sr2 A, as_sr3 A, as_p51 A, h1, t1, h2]
    · simp (disch := omega) only [fM_end, gd1, bs1, ↓reduceIte, d_nz, d_nn, or_true, true_or, or_false, false_or, decide_true, Sum.elim_inl, Sum.elim_inr, ↓l_m1, l_0, l_1, l_2, l_3, l_4, l_5, l_6, l_7, l_8, l_9, l_10, l_16, l_17, l_18, l_20, l_23, l_24, l_30, l_31, l_32, l_39, l_40, l_41, l_48, l_57, l_58, l_59, l_60, l_63, l_90, l_97, l_98, l_99, l_100, l_102, l_103, l_104, l_107, l_109, l_112, l_115, l_116, l_117, l_120, l_122, l_126, l_166, l_180, l_240, l_255, l_640, l_999, l_2656, l_3064, l_3704, l_3708, l_3712, l_3713, l_3893, l_155720, l_1000000, n_ltT, n_ltF, n_leT, n_leF, n_eqT, n_eqF, n_eqm, n_eqm', n_mltn, n_mlen, n_nltm, n_nlem, n_mltm, n_mlem, n_add, n_mul, n_sub, n_subm, n_cl, n_ofNat, n_div, n_mod, obM_si, rdI_si, wrI_si, lnI_si, grM_si', tgM_si', obM_sa, rdI_sa, wrI_sa, lnI_sa, grM_sa', tgM_sa', ms_ob H, ms_g1 H, ms_g5 H, ms_g6 H, ms_g8 H, ms_g9 H, ms_g11 H, ms_g12 H, ms_g15 H, ms_g16 H, ms_g18 H, ms_g19 H, ms_g20 H, ms_g22 H, ms_g24 H, ms_g27 H, ms_g32 H, ms_g21 H, ms_t1 H, ms_r1 H, ms_w1 H, ms_l1 H, ms_t5 H, ms_r5 H, ms_w5 H, ms_l5 H, ms_t6 H, ms_r6 H, ms_w6 H, ms_l6 H, ms_t8 H, ms_r8 H, ms_w8 H, ms_l8 H, ms_t9 H, ms_r9 H, ms_w9 H, ms_l9 H, ms_t11 H, ms_r11 H, ms_w11 H, ms_l11 H, ms_t12 H, ms_r12 H, ms_w12 H, ms_l12 H, ms_t15 H, ms_r15 H, ms_w15 H, ms_l15 H, ms_t16 H, ms_r16 H, ms_w16 H, ms_l16 H, ms_t18 H, ms_r18 H, ms_w18 H, ms_l18 H, ms_t19 H, ms_r19 H, ms_w19 H, ms_l19 H, ms_t20 H, ms_r20 H, ms_w20 H, ms_l20 H, ms_t22 H, ms_r22 H, ms_w22 H, ms_l22 H, ms_t24 H, ms_r24 H, ms_w24 H, ms_l24 H, ms_t27 H, ms_r27 H, ms_w27 H, ms_l27 H, ms_t32 H, ms_r32 H, ms_w32 H, ms_l32 H, ms_b H, u1, i1]
  · have F : Fr M (siM M 2 1 (nI n)) 2 3 := Fr_si (by omega) (by omega)
    have R : RT (siM M 2 1 (nI n)) (siM (siM M 2 1 (nI n)) 1003 2 (nI n)) := ⟨rfl, fun a h1 h2 => giM_un h1, fun k hk => by rw [giM_ud, ud_n _ _ hk]⟩
    have u2 : giM (siM M 2 1 (nI n)) 1003 2 = nI l.length := by rw [giM_un (by omega)]; exact u1
    have i1 := in_Tm (M := siM M 2 1 (nI n)) (a := n) (k := l.length) (by omega) (by omega)
    have d1 := Fr_DS23 F
    have d2 := DS_tr d1 (RT_DS R)
    have lt : (l.take n).length = n := by rw [List.length_take]; omega
    refine ⟨nI 1, _, _, ?_, ?_, ⟨SHP_DS A d2, l_TP (l := l.take n) ⟨by omega, fun x hx => lo.2 x (List.mem_of_mem_take hx)⟩ ⟨?_, ?_⟩ ⟨?_, ?_⟩, ?_, RE_DS re d2, DT_DS D d2⟩, SHP_DS A d1, XS_DS d1, XS_DS d2⟩
    · simp (disch := omega) only [fA_end, BA_end_15, gd1, bs1, ↓reduceIte, d_nz, d_nn, or_true, true_or, or_false, false_or, decide_true, Sum.elim_inl, Sum.elim_inr, ↓l_m1, l_0, l_1, l_2, l_3, l_4, l_5, l_6, l_7, l_8, l_9, l_10, l_16, l_17, l_18, l_20, l_23, l_24, l_30, l_31, l_32, l_39, l_40, l_41, l_48, l_57, l_58, l_59, l_60, l_63, l_90, l_97, l_98, l_99, l_100, l_102, l_103, l_104, l_107, l_109, l_112, l_115, l_116, l_117, l_120, l_122, l_126, l_166, l_180, l_240, l_255, l_640, l_999, l_2656, l_3064, l_3704, l_3708, l_3712, l_3713, l_3893, l_155720, l_1000000, n_ltT, n_ltF, n_leT, n_leF, n_eqT, n_eqF, n_eqm, n_eqm', n_mltn, n_mlen, n_nltm, n_nlem, n_mltm, n_mlem, n_add, n_mul, n_sub, n_subm, n_cl, n_ofNat, n_div, n_mod, obM_si, rdI_si, wrI_si, lnI_si, grM_si', tgM_si', obM_sa, rdI_sa, wrI_sa, lnI_sa, grM_sa', tgM_sa', as_o1 A, as_g1_0 A, as_g1_1 A, as_g1_2 A, as_g1_3 A, as_g1_4 A, as_g1_6 A, as_g1_7 A, as_g1_8 A, as_g1_9 A, as_g1_11 A, as_g1_12 A, as_g1_13 A, as_g1_14 A, as_o2 A, as_g2_0 A, as_t3 A, as_r3 A, as_w3 A, as_l3 A, as_o4 A, as_g4_0 A, as_o5 A, as_g5_0 A, as_g5_1 A, as_t6 A, as_r6 A, as_w6 A, as_l6 A, as_t7 A, as_r7 A, as_w7 A, as_l7 A, as_o8 A, as_g8_0 A, as_g8_1 A, as_t9 A, as_r9 A, as_w9 A, as_l9 A, as_t10 A, as_r10 A, as_w10 A, as_l10 A, as_o28 A, as_g28_0 A, as_g28_1 A, as_g28_2 A, as_t29 A, as_r29 A, as_w29 A, as_l29 A, as_t30 A, as_r30 A, as_w30 A, as_l30 A, as_t31 A, as_r31 A, as_w31 A, as_l31 A, as_o50 A, as_g50_0 A, as_t790 A, as_r790 A, as_w790 A, as_l790 A, as_o791 A, as_g791_0 A, as_g791_1 A, as_g791_2 A, as_o999 A, as_g999_0 A, as_g999_1 A, as_g999_2 A, as_t1000 A, as_r1000 A, as_w1000 A, as_l1000 A, as_t1001 A, as_r1001 A, as_w1001 A, as_l1001 A, as_t1002 A, as_r1002 A, as_w1002 A, as_l1002 A, as_x11 A, as_x51 A, as_x792 A, as_x793 A, as_x794 A, as_t792 A, as_ln792 A, as_s11 A, as_so A, as_sg0 A, as_sg1 A, as_sg2 A, as_sr1 A, as_sr2 A, as_sr3 A, as_p51 A, t1]
    · simp (disch := omega) only [fM_end, gd1, bs1, ↓reduceIte, d_nz, d_nn, or_true, true_or, or_false, false_or, decide_true, Sum.elim_inl, Sum.elim_inr, ↓l_m1, l_0, l_1, l_2, l_3, l_4, l_5, l_6, l_7, l_8, l_9, l_10, l_16, l_17, l_18, l_20, l_23, l_24, l_30, l_31, l_32, l_39, l_40, l_41, l_48, l_57, l_58, l_59, l_60, l_63, l_90, l_97, l_98, l_99, l_100, l_102, l_103, l_104, l_107, l_109, l_112, l_115, l_116, l_117, l_120, l_122, l_126, l_166, l_180, l_240, l_255, l_640, l_999, l_2656, l_3064, l_3704, l_3708, l_3712, l_3713, l_3893, l_155720, l_1000000, n_ltT, n_ltF, n_leT, n_leF, n_eqT, n_eqF, n_eqm, n_eqm', n_mltn, n_mlen, n_nltm, n_nlem, n_mltm, n_mlem, n_add, n_mul, n_sub, n_subm, n_cl, n_ofNat, n_div, n_mod, obM_si, rdI_si, wrI_si, lnI_si, grM_si', tgM_si', obM_sa, rdI_sa, wrI_sa, lnI_sa, grM_sa', tgM_sa', ms_ob H, ms_g1 H, ms_g5 H, ms_g6 H, ms_g8 H, ms_g9 H, ms_g11 H, ms_g12 H, ms_g15 H, ms_g16 H, ms_g18 H, ms_g19 H, ms_g20 H, ms_g22 H, ms_g24 H, ms_g27 H, ms_g32 H, ms_g21 H, ms_t1 H, ms_r1 H, ms_w1 H, ms_l1 H, ms_t5 H, ms_r5 H, ms_w5 H, ms_l5 H, ms_t6 H, ms_r6 H, ms_w6 H, ms_l6 H, ms_t8 H, ms_r8 H, ms_w8 H, ms_l8 H, ms_t9 H, ms_r9 H, ms_w9 H, ms_l9 H, ms_t11 H, ms_r11 H, ms_w11 H, ms_l11 H, ms_t12 H, ms_r12 H, ms_w12 H, ms_l12 H, ms_t15 H, ms_r15 H, ms_w15 H, ms_l15 H, ms_t16 H, ms_r16 H, ms_w16 H, ms_l16 H, ms_t18 H, ms_r18 H, ms_w18 H, ms_l18 H, ms_t19 H, ms_r19 H, ms_w19 H, ms_l19 H, ms_t20 H, ms_r20 H, ms_w20 H, ms_l20 H, ms_t22 H, ms_r22 H, ms_w22 H, ms_l22 H, ms_t24 H, ms_r24 H, ms_w24 H, ms_l24 H, ms_t27 H, ms_r27 H, ms_w27 H, ms_l27 H, ms_t32 H, ms_r32 H, ms_w32 H, ms_l32 H, ms_b H, u2, i1]
    · rw [giM_un (by omega), giM_ud, ud_s, lt]
    · intro i hi
      rw [giM_un (by omega), giM_un (by omega), List.getElem_take]
      exact tc.2 i (by omega)
    · rw [giM_ud, ud_s, lt]
    · intro i hi
      rw [giM_un (by omega), giM_un (by omega), List.getElem_take]
      exact tm.2 i (by omega)
    · exact SC_cg sc (by rw [R.2.1 1 (by omega) (by omega), F.2 1 (by omega)]) (fun a h1 h2 => by rw [R.2.1 a (by omega) (by omega), F.2 a (by omega)]) (by rw [R.2.2 13 (by omega), F.2 1003 (by omega)]) (by rw [R.2.1 1009 (by omega) (by omega), F.2 1009 (by omega)]) (by rw [R.2.1 1010 (by omega) (by omega), F.2 1010 (by omega)])
end FE
