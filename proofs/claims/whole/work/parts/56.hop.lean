theorem ud_ud {α : Type} (f : Nat → α) (i : Nat) (x y : α) : ud (ud f i x) i y = ud f i y := by
  funext j
  by_cases h : j = i
  · subst h; rw [ud_s, ud_s]
  · rw [ud_n _ _ h, ud_n _ _ h, ud_n _ _ h]
theorem LH_vacate_S (f : Nat) : LH_vacate_4 (f + 1) = BH_vacate_4 (LH_vacate_4 f) := rfl
section CO
variable {M : Mem} {h : Nat} {ρ : Rul} {β : Nat} {S : HSt} {p t b l q : Nat}
theorem no_q (V : Inv ρ β S) (hk : kd S p ≠ 1) : ∀ k, k < 24 → p ∉ qu S k := fun k hkk hm => hk (((V.2.2.1 k hkk).2 p).mp hm).2.1
theorem cEnq (C : CC M h ρ β S) (V : Inv ρ β S) (hp : p < 16) (hk : kd S p = 2) : ∃ M', fC_append (h + 4) (nI (6 * ow S p + cl S p)) (nI p) M = some M' ∧ Fr M M' (h + 5) (h + 8) ∧ CC M' h ρ β (oEnq p S) := by
  have hR := ru_b C.2.2.1
  have hq := q_lt (by omega) (by omega) V.1 hp (Or.inr hk)
  obtain ⟨M', e, F, hL, ht, hx⟩ := append_ok (hs_q C.1) (cv_Q C) hq.2.2 (t := p) hp (no_q V (by omega))
  refine ⟨M', e, F, cc_qu C (Fr_w F (by omega) (by omega)) ⟨rfl, rfl, rfl, rfl, rfl⟩ ?_ ?_ hL⟩
  · intro x hx
    refine cut_eq ?_ (fun _ => rfl)
    show ud (kd S) p 1 x = 0 ↔ kd S x = 0
    by_cases ex : x = p
    · subst ex; rw [ud_s]; omega
    · rw [ud_n _ _ ex]
  · intro x hx2
    rw [F.2 (h + 1) (by omega), F.2 (h + 2) (by omega), F.2 (h + 3) (by omega), cv_k C hx2, cv_o C hx2, cv_c C hx2]
    unfold kI oI
    show _ = (if ud (kd S) p 1 x = 0 then mI else nI (cl S x)) ∧ _ = (if ud (kd S) p 1 x = 1 ∨ ud (kd S) p 1 x = 2 then nI (ow S x) else mI) ∧ _ ∧ (ud (kd S) p 1 x ≠ 1 → _)
    by_cases ex : x = p
    · subst ex
      rw [ud_s, hk]
      exact ⟨rfl, rfl, rfl, fun q => absurd rfl q⟩
    · rw [ud_n _ _ ex]
      exact ⟨rfl, rfl, rfl, fun q => (hx x ex).trans (cv_h C hx2 q)⟩
/-- a page is out of its queue: full, as the class has it -/
def oDrop (p : Nat) (S : HSt) : HSt := wkd (oLeave p S) (ud (kd S) p 2)
theorem cDrop (C : CC M h ρ β S) (V : Inv ρ β S) (hp : p < 16) (hk : kd S p = 1 ∨ kd S p = 2) : ∃ M', fC_drop (h + 4) (nI p) M = some M' ∧ Fr M M' (h + 5) (h + 8) ∧ CC M' h ρ β (oDrop p S) := by
  have hR := ru_b C.2.2.1
  have hq := q_lt (by omega) (by omega) V.1 hp hk
  by_cases hk1 : kd S p = 1
  · have hm : p ∈ qu S (6 * ow S p + cl S p) := ((V.2.2.1 _ hq.2.2).2 p).mpr ⟨hp, hk1, rfl⟩
    obtain ⟨M', e, F, hL, ht, hx⟩ := drop_ok (hs_q C.1) (cv_Q C) hq.2.2 hm
    have eL : oDrop p S = wkd (wqu S (ud (qu S) (6 * ow S p + cl S p) ((qu S (6 * ow S p + cl S p)).erase p))) (ud (kd S) p 2) := by
      unfold oDrop oLeave
      rw [if_pos hk1]
    rw [eL]
    refine ⟨M', e, F, cc_qu C (Fr_w F (by omega) (by omega)) ⟨rfl, rfl, rfl, rfl, rfl⟩ ?_ ?_ hL⟩
    · intro x hx
      refine cut_eq ?_ (fun _ => rfl)
      show ud (kd S) p 2 x = 0 ↔ kd S x = 0
      by_cases ex : x = p
      · subst ex; rw [ud_s]; omega
      · rw [ud_n _ _ ex]
    · intro x hx2
      rw [F.2 (h + 1) (by omega), F.2 (h + 2) (by omega), F.2 (h + 3) (by omega), cv_k C hx2, cv_o C hx2, cv_c C hx2]
      unfold kI oI
      show _ = (if ud (kd S) p 2 x = 0 then mI else nI (cl S x)) ∧ _ = (if ud (kd S) p 2 x = 1 ∨ ud (kd S) p 2 x = 2 then nI (ow S x) else mI) ∧ _ ∧ (ud (kd S) p 2 x ≠ 1 → _)
      by_cases ex : x = p
      · subst ex
        rw [ud_s, hk1]
        exact ⟨rfl, rfl, rfl, fun q => ht⟩
      · rw [ud_n _ _ ex]
        exact ⟨rfl, rfl, rfl, fun q => (hx x ex).trans (cv_h C hx2 q)⟩
  · have hk2 : kd S p = 2 := hk.resolve_left hk1
    have eL : oDrop p S = wkd S (ud (kd S) p 2) := by
      unfold oDrop oLeave
      rw [if_neg hk1]
    have eu : ud (kd S) p 2 = kd S := by
      funext x
      by_cases ex : x = p
      · subst ex; rw [ud_s, hk2]
      · rw [ud_n _ _ ex]
    rw [eu] at eL
    rw [eL]
    refine ⟨M, drop_none (hs_q C.1) hp (cv_h C hp hk1), Fr_refl _ _ _, C⟩
/-- the class's vacate: lists are gone, the page is empty -/
def oVac (p : Nat) (S : HSt) : HSt := wbl (wkd S (ud (kd S) p 0)) (ud (ud (ud (bl S) (3 * p) []) (3 * p + 1) []) (3 * p + 2) [])
theorem cVac (C : CC M h ρ β S) (hp : p < 16) (hk : kd S p ≠ 1) : ∃ M', fH_vacate h (nI p) M = some M' ∧ Fr M M' (h + 1) (h + 13) ∧ CC M' h ρ β (oVac p S) := by
  have H := C.1
  have hb := hs_b H
  obtain ⟨f, hf⟩ : ∃ f, 1000000 = f + 4 := ⟨999996, rfl⟩
  refine ⟨siM (siM (siM (siM (siM (siM (siM (siM (siM M (h + 10) (3 * p) mI) (h + 11) (3 * p) (nI 0)) (h + 10) (3 * p + 1) mI) (h + 11) (3 * p + 1) (nI 0)) (h + 10) (3 * p + 2) mI) (h + 11) (3 * p + 2) (nI 0)) (h + 1) p mI) (h + 2) p mI) (h + 3) p (nI 0), ?_, ⟨rfl, ?_⟩, ?_⟩
  · have e1 : 3 * p + 1 + 1 = 3 * p + 2 := rfl
    have e2 : (p + 1) * 3 = 3 * p + 3 := by omega
    simp (disch := omega) only [fH_vacate, hf, LH_vacate_S, BH_vacate_4, gd1, bs1, ↓reduceIte, d_nz, d_nn, or_true, true_or, or_false, false_or, decide_true, Sum.elim_inl, Sum.elim_inr, ↓l_m1, l_0, l_1, l_2, l_3, l_4, l_5, l_6, l_7, l_8, l_9, l_10, l_16, l_17, l_18, l_20, l_23, l_24, l_30, l_31, l_32, l_39, l_40, l_41, l_48, l_57, l_58, l_59, l_60, l_63, l_90, l_97, l_98, l_99, l_100, l_102, l_103, l_104, l_107, l_109, l_112, l_115, l_116, l_117, l_120, l_122, l_126, l_166, l_180, l_240, l_255, l_640, l_999, l_2656, l_3064, l_3704, l_3708, l_3712, l_3713, l_3893, l_155720, l_1000000, n_ltT, n_ltF, n_leT, n_leF, n_eqT, n_eqF, n_eqm, n_eqm', n_mltn, n_mlen, n_nltm, n_nlem, n_mltm, n_mlem, n_add, n_mul, n_sub, n_subm, n_cl, n_ofNat, n_div, n_mod, obM_si, rdI_si, wrI_si, lnI_si, grM_si', tgM_si', obM_sa, rdI_sa, wrI_sa, lnI_sa, grM_sa', tgM_sa', hs_ob H, hs_g0 H, hs_g1 H, hs_g2 H, hs_g3 H, hs_g4 H, hs_g5 H, hs_g6 H, hs_g7 H, hs_g8 H, hs_t1 H, hs_r1 H, hs_w1 H, hs_l1 H, hs_t2 H, hs_r2 H, hs_w2 H, hs_l2 H, hs_t3 H, hs_r3 H, hs_w3 H, hs_l3 H, hs_t14 H, hs_r14 H, hs_w14 H, hs_l14 H, hs_t15 H, hs_r15 H, hs_w15 H, hs_l15 H, hs_ob4 H, hs_g4_0 H, hs_t5 H, hs_r5 H, hs_w5 H, hs_l5 H, hs_g4_1 H, hs_t6 H, hs_r6 H, hs_w6 H, hs_l6 H, hs_g4_2 H, hs_t7 H, hs_r7 H, hs_w7 H, hs_l7 H, hs_g4_3 H, hs_t8 H, hs_r8 H, hs_w8 H, hs_l8 H, hs_ob9 H, hs_g9_0 H, hs_t10 H, hs_r10 H, hs_w10 H, hs_l10 H, hs_g9_1 H, hs_t11 H, hs_r11 H, hs_w11 H, hs_l11 H, hs_g9_2 H, hs_t12 H, hs_r12 H, hs_w12 H, hs_l12 H, hs_g9_3 H, hs_t13 H, hs_r13 H, hs_w13 H, hs_l13 H, hs_ob16 H, hs_g16 H, hs_t17 H, hs_r17 H, hs_w17 H, hs_l17 H, hs_ob5 H, hs_g50 H, hs_g51 H, hs_tu6 H, hs_ru6 H, hs_wu6 H, hs_lu6 H, hs_tu7 H, hs_ru7 H, hs_wu7 H, hs_lu7 H, mul3, e1]
  · intro a ha
    simp (disch := omega) only [giM_un]
  · have R := C.2.1
    obtain ⟨-, -, hR, C1, C2, C3, C4, C5, C6⟩ := C
    refine ⟨HS_2 rfl H, RuC_of R ?_ ?_ ?_, hR, ?_, ?_, ?_, ?_, ?_, ?_⟩
    · simp (disch := omega) only [giM_un]
    · simp (disch := omega) only [giM_un]
    · simp (disch := omega) only [giM_un]
    · intro x hx
      obtain ⟨c1, c2, c3, c4⟩ := C1 x hx
      simp (disch := omega) only [giM_un, giM_ud]
      unfold kI oI cut
      show _ = (if ud (kd S) p 0 x = 0 then mI else nI (cl S x)) ∧ _ = (if ud (kd S) p 0 x = 1 ∨ ud (kd S) p 0 x = 2 then nI (ow S x) else mI) ∧ _ = nI (if ud (kd S) p 0 x = 0 then 0 else rU ρ / rZ ρ (cl S x)) ∧ (ud (kd S) p 0 x ≠ 1 → _)
      by_cases ex : x = p
      · subst ex
        rw [ud_s, ud_s, ud_s, ud_s]
        exact ⟨rfl, rfl, rfl, fun _ => c4 hk⟩
      · rw [ud_n _ _ ex, ud_n _ _ ex, ud_n _ _ ex, ud_n _ _ ex]
        exact ⟨c1, c2, c3, c4⟩
    · unfold ChM
      simp (disch := omega) only [giM_un]
      exact C2
    · unfold ChM
      simp (disch := omega) only [giM_un, giM_ud]
      intro k hk2
      obtain ⟨d1, d2, d3, d4⟩ := C3 k hk2
      have eL : LT (oVac p S) k = if k = 3 * p + 2 ∨ k = 3 * p + 1 ∨ k = 3 * p then [] else LT S k := by
        show List.map _ (ud (ud (ud (bl S) (3 * p) []) (3 * p + 1) []) (3 * p + 2) [] k) = _
        unfold ud
        by_cases k1 : k = 3 * p + 2
        · rw [if_pos k1, if_pos (Or.inl k1)]; rfl
        · by_cases k2 : k = 3 * p + 1
          · rw [if_neg k1, if_pos k2, if_pos (Or.inr (Or.inl k2))]; rfl
          · by_cases k3 : k = 3 * p
            · rw [if_neg k1, if_neg k2, if_pos k3, if_pos (Or.inr (Or.inr k3))]; rfl
            · rw [if_neg k1, if_neg k2, if_neg k3, if_neg (by omega)]; rfl
      rw [eL]
      unfold ud
      by_cases k1 : k = 3 * p + 2 ∨ k = 3 * p + 1 ∨ k = 3 * p
      · rw [if_pos k1]
        refine ⟨?_, ?_, List.nodup_nil, fun t ht => by cases ht⟩
        · show _ = mI
          rcases k1 with k1 | k1 | k1
          · rw [if_pos k1]
          · rw [if_neg (by omega), if_pos k1]
          · rw [if_neg (by omega), if_neg (by omega), if_pos k1]
        · rcases k1 with k1 | k1 | k1
          · rw [if_pos k1]; rfl
          · rw [if_neg (by omega), if_pos k1]; rfl
          · rw [if_neg (by omega), if_neg (by omega), if_pos k1]; rfl
      · rw [if_neg k1, if_neg (by omega), if_neg (by omega), if_neg (by omega), if_neg (by omega), if_neg (by omega), if_neg (by omega)]
        exact ⟨d1, d2, d3, d4⟩
    · intro x b hx hb2 hd2
      simp (disch := omega) only [giM_un]
      by_cases ex : x = p
      · subst ex
        have : cut ρ (oVac x S) x = 0 := cut_0 (show ud (kd S) x 0 x = 0 from ud_s _ _ _)
        omega
      · have : cut ρ (oVac p S) x = cut ρ S x := cut_eq (by show ud (kd S) p 0 x = 0 ↔ _; rw [ud_n _ _ ex]) (fun _ => rfl)
        rw [this] at hb2
        exact C4 x b hx hb2 hd2
    · simp (disch := omega) only [giM_un]
      exact C5
    · simp (disch := omega) only [giM_un]
      exact C6
theorem cEmpty (C : CC M h ρ β S) (V : Inv ρ β S) (hp : p < 16) (hk : kd S p = 1 ∨ kd S p = 2) : ∃ M', fH_makeEmpty h (nI p) M = some M' ∧ Fr M M' (h + 1) (h + 13) ∧ CC M' h ρ β (oEmpty p S) := by
  have H := C.1
  have hb := hs_b H
  obtain ⟨M1, e1, F1, C1⟩ := cDrop C V hp hk
  obtain ⟨M2, e2, F2, C2⟩ := cVac C1 hp (show ud (kd S) p 2 p ≠ 1 by rw [ud_s]; omega)
  have eq : oVac p (oDrop p S) = oEmpty p S := by
    unfold oVac oDrop oEmpty
    have e3 := (leave_pr p S).2.2.2.2.1
    show wbl (wkd (wkd (oLeave p S) (ud (kd S) p 2)) (ud (ud (kd S) p 2) p 0)) (ud (ud (ud (bl (oLeave p S)) (3 * p) []) (3 * p + 1) []) (3 * p + 2) []) = _
    rw [ud_ud, e3]
    rfl
  rw [eq] at C2
  refine ⟨M2, ?_, Fr_tr (Fr_w F1 (by omega) (by omega)) F2, C2⟩
  have s1 := F1.1
  simp (disch := omega) only [fH_makeEmpty, gd1, bs1, ↓reduceIte, d_nz, d_nn, or_true, true_or, or_false, false_or, decide_true, Sum.elim_inl, Sum.elim_inr, ↓l_m1, l_0, l_1, l_2, l_3, l_4, l_5, l_6, l_7, l_8, l_9, l_10, l_16, l_17, l_18, l_20, l_23, l_24, l_30, l_31, l_32, l_39, l_40, l_41, l_48, l_57, l_58, l_59, l_60, l_63, l_90, l_97, l_98, l_99, l_100, l_102, l_103, l_104, l_107, l_109, l_112, l_115, l_116, l_117, l_120, l_122, l_126, l_166, l_180, l_240, l_255, l_640, l_999, l_2656, l_3064, l_3704, l_3708, l_3712, l_3713, l_3893, l_155720, l_1000000, n_ltT, n_ltF, n_leT, n_leF, n_eqT, n_eqF, n_eqm, n_eqm', n_mltn, n_mlen, n_nltm, n_nlem, n_mltm, n_mlem, n_add, n_mul, n_sub, n_subm, n_cl, n_ofNat, n_div, n_mod, obM_si, rdI_si, wrI_si, lnI_si, grM_si', tgM_si', obM_sa, rdI_sa, wrI_sa, lnI_sa, grM_sa', tgM_sa', obM_2 s1, rdI_2 s1, wrI_2 s1, lnI_2 s1, grM_2 s1, tgM_2 s1, hs_ob H, hs_g0 H, hs_g1 H, hs_g2 H, hs_g3 H, hs_g4 H, hs_g5 H, hs_g6 H, hs_g7 H, hs_g8 H, hs_t1 H, hs_r1 H, hs_w1 H, hs_l1 H, hs_t2 H, hs_r2 H, hs_w2 H, hs_l2 H, hs_t3 H, hs_r3 H, hs_w3 H, hs_l3 H, hs_t14 H, hs_r14 H, hs_w14 H, hs_l14 H, hs_t15 H, hs_r15 H, hs_w15 H, hs_l15 H, hs_ob4 H, hs_g4_0 H, hs_t5 H, hs_r5 H, hs_w5 H, hs_l5 H, hs_g4_1 H, hs_t6 H, hs_r6 H, hs_w6 H, hs_l6 H, hs_g4_2 H, hs_t7 H, hs_r7 H, hs_w7 H, hs_l7 H, hs_g4_3 H, hs_t8 H, hs_r8 H, hs_w8 H, hs_l8 H, hs_ob9 H, hs_g9_0 H, hs_t10 H, hs_r10 H, hs_w10 H, hs_l10 H, hs_g9_1 H, hs_t11 H, hs_r11 H, hs_w11 H, hs_l11 H, hs_g9_2 H, hs_t12 H, hs_r12 H, hs_w12 H, hs_l12 H, hs_g9_3 H, hs_t13 H, hs_r13 H, hs_w13 H, hs_l13 H, hs_ob16 H, hs_g16 H, hs_t17 H, hs_r17 H, hs_w17 H, hs_l17 H, hs_ob5 H, hs_g50 H, hs_g51 H, hs_tu6 H, hs_ru6 H, hs_wu6 H, hs_lu6 H, hs_tu7 H, hs_ru7 H, hs_wu7 H, hs_lu7 H, e1, e2]
end CO
