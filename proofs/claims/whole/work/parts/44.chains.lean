section CH
variable {c n1 n2 l t : Nat} {Ls : Nat → List Nat}
theorem mv_loop (v1 : Int32) (to : Nat) : ∀ (xs : List Nat) (f i : Nat) (d x : Int32) (M : Mem), ChS M c n1 n2 → LSg (giM M (c + 3)) x xs mI → (∀ t ∈ xs, t < n2) → i + xs.length ≤ n2 → xs.length < f → LC_moveAhead_55 f c v1 (nI to) d (nI i) x M = some (laI d xs, saM M (c + 4) (hmv (giM M (c + 4)) (nI to) xs)) := by
  intro xs
  induction xs with
  | nil =>
    intro f i d x M S hx _ hi hf
    have hb := S.1
    obtain ⟨g, rfl⟩ : ∃ g, f = g + 1 := ⟨f - 1, by omega⟩
    cases hx
    show BC_moveAhead_55 (LC_moveAhead_55 g) c v1 (nI to) d (nI i) mI M = some (d, saM M (c + 4) (giM M (c + 4)))
    rw [saM_id]
    rcases Nat.lt_or_ge i n2 with h | h
    · simp (disch := omega) only [BC_moveAhead_55, gd1, bs1, ↓reduceIte, d_nz, d_nn, or_true, true_or, or_false, false_or, decide_true, Sum.elim_inl, Sum.elim_inr, ↓l_m1, l_0, l_1, l_2, l_3, l_4, l_5, l_6, l_7, l_8, l_9, l_10, l_16, l_17, l_18, l_20, l_23, l_24, l_30, l_31, l_32, l_39, l_40, l_41, l_48, l_57, l_58, l_59, l_60, l_63, l_90, l_97, l_98, l_99, l_100, l_102, l_103, l_104, l_107, l_109, l_112, l_115, l_116, l_117, l_120, l_122, l_126, l_166, l_180, l_240, l_255, l_640, l_999, l_2656, l_3064, l_3704, l_3708, l_3712, l_3713, l_3893, l_155720, l_1000000, n_ltT, n_ltF, n_leT, n_leF, n_eqT, n_eqF, n_eqm, n_eqm', n_mltn, n_mlen, n_nltm, n_nlem, n_mltm, n_mlem, n_add, n_mul, n_sub, n_subm, n_cl, n_ofNat, n_div, n_mod, obM_si, rdI_si, wrI_si, lnI_si, grM_si', tgM_si', obM_sa, rdI_sa, wrI_sa, lnI_sa, grM_sa', tgM_sa', cs_ob S, cs_g0 S, cs_g1 S, cs_g2 S, cs_g3 S, cs_t1 S, cs_t2 S, cs_t3 S, cs_t4 S, cs_r1 S, cs_r2 S, cs_r3 S, cs_r4 S, cs_w1 S, cs_w2 S, cs_w3 S, cs_w4 S, cs_l1 S, cs_l2 S, cs_l3 S, cs_l4 S]
    · simp (disch := omega) only [BC_moveAhead_55, gd1, bs1, ↓reduceIte, d_nz, d_nn, or_true, true_or, or_false, false_or, decide_true, Sum.elim_inl, Sum.elim_inr, ↓l_m1, l_0, l_1, l_2, l_3, l_4, l_5, l_6, l_7, l_8, l_9, l_10, l_16, l_17, l_18, l_20, l_23, l_24, l_30, l_31, l_32, l_39, l_40, l_41, l_48, l_57, l_58, l_59, l_60, l_63, l_90, l_97, l_98, l_99, l_100, l_102, l_103, l_104, l_107, l_109, l_112, l_115, l_116, l_117, l_120, l_122, l_126, l_166, l_180, l_240, l_255, l_640, l_999, l_2656, l_3064, l_3704, l_3708, l_3712, l_3713, l_3893, l_155720, l_1000000, n_ltT, n_ltF, n_leT, n_leF, n_eqT, n_eqF, n_eqm, n_eqm', n_mltn, n_mlen, n_nltm, n_nlem, n_mltm, n_mlem, n_add, n_mul, n_sub, n_subm, n_cl, n_ofNat, n_div, n_mod, obM_si, rdI_si, wrI_si, lnI_si, grM_si', tgM_si', obM_sa, rdI_sa, wrI_sa, lnI_sa, grM_sa', tgM_sa', cs_ob S, cs_g0 S, cs_g1 S, cs_g2 S, cs_g3 S, cs_t1 S, cs_t2 S, cs_t3 S, cs_t4 S, cs_r1 S, cs_r2 S, cs_r3 S, cs_r4 S, cs_w1 S, cs_w2 S, cs_w3 S, cs_w4 S, cs_l1 S, cs_l2 S, cs_l3 S, cs_l4 S]
  | cons t ts ih =>
    intro f i d x M S hx ht hi hf
    have hb := S.1
    obtain ⟨g, rfl⟩ : ∃ g, f = g + 1 := ⟨f - 1, by omega⟩
    obtain ⟨rfl, hx⟩ := hx
    have h1 := ht t List.mem_cons_self
    rw [List.length_cons] at hi hf
    have e3 : giM (siM M (c + 4) t (nI to)) (c + 3) = giM M (c + 3) := giM_un (by omega)
    have h2 := ih g (i + 1) (nI t) (giM M (c + 3) t) (siM M (c + 4) t (nI to)) (ChS_2 rfl S) (by rw [e3]; exact hx) (fun y hy => ht y (List.mem_cons_of_mem _ hy)) (by omega) (by omega)
    rw [giM_ud, saM_si] at h2
    show BC_moveAhead_55 (LC_moveAhead_55 g) c v1 (nI to) d (nI i) (nI t) M = _
    simp (disch := omega) only [BC_moveAhead_55, gd1, bs1, ↓reduceIte, d_nz, d_nn, or_true, true_or, or_false, false_or, decide_true, Sum.elim_inl, Sum.elim_inr, ↓l_m1, l_0, l_1, l_2, l_3, l_4, l_5, l_6, l_7, l_8, l_9, l_10, l_16, l_17, l_18, l_20, l_23, l_24, l_30, l_31, l_32, l_39, l_40, l_41, l_48, l_57, l_58, l_59, l_60, l_63, l_90, l_97, l_98, l_99, l_100, l_102, l_103, l_104, l_107, l_109, l_112, l_115, l_116, l_117, l_120, l_122, l_126, l_166, l_180, l_240, l_255, l_640, l_999, l_2656, l_3064, l_3704, l_3708, l_3712, l_3713, l_3893, l_155720, l_1000000, n_ltT, n_ltF, n_leT, n_leF, n_eqT, n_eqF, n_eqm, n_eqm', n_mltn, n_mlen, n_nltm, n_nlem, n_mltm, n_mlem, n_add, n_mul, n_sub, n_subm, n_cl, n_ofNat, n_div, n_mod, obM_si, rdI_si, wrI_si, lnI_si, grM_si', tgM_si', obM_sa, rdI_sa, wrI_sa, lnI_sa, grM_sa', tgM_sa', cs_ob S, cs_g0 S, cs_g1 S, cs_g2 S, cs_g3 S, cs_t1 S, cs_t2 S, cs_t3 S, cs_t4 S, cs_r1 S, cs_r2 S, cs_r3 S, cs_r4 S, cs_w1 S, cs_w2 S, cs_w3 S, cs_w4 S, cs_l1 S, cs_l2 S, cs_l3 S, cs_l4 S, e3, h2]
    rfl
variable {M : Mem}
theorem move_ok {to : Nat} (S : ChS M c n1 n2) (h : ChM M c Ls n1 n2) (hl : l < n1) (ht : to < n1) (hne : l ≠ to) :
    ∃ M', fC_moveAhead c (nI l) (nI to) M = some M' ∧ Fr M M' (c + 1) (c + 4) ∧ ChM M' c (ud (ud Ls to (Ls l ++ Ls to)) l []) n1 n2 ∧ ∀ x, x ∉ Ls l → giM M' (c + 4) x = giM M (c + 4) x := by
  have hb := S.1
  have hn := ch_len h hl
  obtain ⟨h1, h2, h3, h4⟩ := h l hl
  obtain ⟨k1, k2, k3, k4⟩ := h to ht
  have e := mv_loop (nI l) to (Ls l) 1000000 0 mI _ M S h1 (fun y hy => (h4 y hy).1) (by omega) (by omega)
  rcases List.eq_nil_or_concat (Ls l) with e1 | ⟨pre, a, e1⟩
  · rw [e1] at h1
    obtain h1 : giM M (c + 1) l = mI := h1
    refine ⟨M, ?_, Fr_refl _ _ _, ch_eq h ?_, fun x _ => rfl⟩
    · simp (disch := omega) only [fC_moveAhead, gd1, bs1, ↓reduceIte, d_nz, d_nn, or_true, true_or, or_false, false_or, decide_true, Sum.elim_inl, Sum.elim_inr, ↓l_m1, l_0, l_1, l_2, l_3, l_4, l_5, l_6, l_7, l_8, l_9, l_10, l_16, l_17, l_18, l_20, l_23, l_24, l_30, l_31, l_32, l_39, l_40, l_41, l_48, l_57, l_58, l_59, l_60, l_63, l_90, l_97, l_98, l_99, l_100, l_102, l_103, l_104, l_107, l_109, l_112, l_115, l_116, l_117, l_120, l_122, l_126, l_166, l_180, l_240, l_255, l_640, l_999, l_2656, l_3064, l_3704, l_3708, l_3712, l_3713, l_3893, l_155720, l_1000000, n_ltT, n_ltF, n_leT, n_leF, n_eqT, n_eqF, n_eqm, n_eqm', n_mltn, n_mlen, n_nltm, n_nlem, n_mltm, n_mlem, n_add, n_mul, n_sub, n_subm, n_cl, n_ofNat, n_div, n_mod, obM_si, rdI_si, wrI_si, lnI_si, grM_si', tgM_si', obM_sa, rdI_sa, wrI_sa, lnI_sa, grM_sa', tgM_sa', cs_ob S, cs_g0 S, cs_g1 S, cs_g2 S, cs_g3 S, cs_t1 S, cs_t2 S, cs_t3 S, cs_t4 S, cs_r1 S, cs_r2 S, cs_r3 S, cs_r4 S, cs_w1 S, cs_w2 S, cs_w3 S, cs_w4 S, cs_l1 S, cs_l2 S, cs_l3 S, cs_l4 S, h1, BC_moveAhead_41]
    · intro k hk
      by_cases ek : k = l
      · rw [ek, ud_s, e1]
      · rw [ud_n _ _ ek]
        by_cases et : k = to
        · rw [et, ud_s, e1]; rfl
        · rw [ud_n _ _ et]
  · rw [List.concat_eq_append] at e1
    have ha : a ∈ Ls l := by rw [e1]; simp
    have ha2 := (h4 a ha).1
    have hdj : ∀ k, k < n1 → k ≠ l → ∀ x ∈ Ls k, x ∉ Ls l := fun k hk hkl x hx q => hkl (ch_dj S h hk hl hx q)
    rw [e1] at h1 h3
    have e2 : laI mI (Ls l) = nI a := by rw [e1, laI_cc]
    rw [e2] at e
    obtain ⟨y, g1, g2, g3⟩ := LSg_app.mp h1
    subst g2
    have hap : a ∉ pre := fun q => (List.nodup_append.mp h3).2.2 a q a (by simp) rfl
    have hx0 : ∃ x0, giM M (c + 1) l = nI x0 ∧ x0 < n2 := by
      cases pre with
      | nil => exact ⟨a, g1, ha2⟩
      | cons z zs => exact ⟨z, g1.1, (h4 z (by rw [e1]; simp)).1⟩
    obtain ⟨x0, ex0, hx0⟩ := hx0
    refine ⟨siM (siM (siM (siM (siM (saM M (c + 4) (hmv (giM M (c + 4)) (nI to) (Ls l))) (c + 3) a (giM M (c + 1) to)) (c + 1) to (nI x0)) (c + 2) to (giM M (c + 2) to + giM M (c + 2) l)) (c + 1) l mI) (c + 2) l (nI 0), ?_, ⟨rfl, ?_⟩, ?_, ?_⟩
    · rw [ex0] at e
      simp (disch := omega) only [fC_moveAhead, gd1, bs1, ↓reduceIte, d_nz, d_nn, or_true, true_or, or_false, false_or, decide_true, Sum.elim_inl, Sum.elim_inr, ↓l_m1, l_0, l_1, l_2, l_3, l_4, l_5, l_6, l_7, l_8, l_9, l_10, l_16, l_17, l_18, l_20, l_23, l_24, l_30, l_31, l_32, l_39, l_40, l_41, l_48, l_57, l_58, l_59, l_60, l_63, l_90, l_97, l_98, l_99, l_100, l_102, l_103, l_104, l_107, l_109, l_112, l_115, l_116, l_117, l_120, l_122, l_126, l_166, l_180, l_240, l_255, l_640, l_999, l_2656, l_3064, l_3704, l_3708, l_3712, l_3713, l_3893, l_155720, l_1000000, n_ltT, n_ltF, n_leT, n_leF, n_eqT, n_eqF, n_eqm, n_eqm', n_mltn, n_mlen, n_nltm, n_nlem, n_mltm, n_mlem, n_add, n_mul, n_sub, n_subm, n_cl, n_ofNat, n_div, n_mod, obM_si, rdI_si, wrI_si, lnI_si, grM_si', tgM_si', obM_sa, rdI_sa, wrI_sa, lnI_sa, grM_sa', tgM_sa', cs_ob S, cs_g0 S, cs_g1 S, cs_g2 S, cs_g3 S, cs_t1 S, cs_t2 S, cs_t3 S, cs_t4 S, cs_r1 S, cs_r2 S, cs_r3 S, cs_r4 S, cs_w1 S, cs_w2 S, cs_w3 S, cs_w4 S, cs_l1 S, cs_l2 S, cs_l3 S, cs_l4 S, ex0, e, BC_moveAhead_97, BC_moveAhead_114, giM_un, gi_san]
    · intro a ha
      simp (disch := omega) only [giM_un, gi_san]
    · unfold ChM
      simp (disch := omega) only [giM_ud, giM_un, gi_san, gi_sas]
      intro k hk
      by_cases ek : k = l
      · subst ek
        rw [ud_s, ud_s, ud_s]
        exact ⟨rfl, rfl, List.nodup_nil, fun y hy => by cases hy⟩
      · rw [ud_n _ _ ek, ud_n _ _ ek, ud_n _ _ ek]
        by_cases et : k = to
        · subst et
          rw [ud_s, ud_s, ud_s]
          have hak : a ∉ Ls k := fun q => hdj k hk ek a q ha
          refine ⟨?_, ?_, ?_, fun y hy => ?_⟩
          · rw [e1, List.append_assoc]
            refine LSg_app.mpr ⟨nI a, ?_, rfl, ?_⟩
            · rw [LSg_ud hap, ← ex0]
              exact g1
            · rw [ud_s]
              exact (LSg_ud hak).mpr k1
          · rw [k2, h2, n_add, List.length_append, Nat.add_comm]
          · refine List.nodup_append.mpr ⟨by rw [e1]; exact h3, k3, fun x hx y hy => ?_⟩
            rintro rfl
            exact hdj k hk ek x hy hx
          · by_cases hy2 : y ∈ Ls l
            · exact ⟨(h4 y hy2).1, hmv_in hy2⟩
            · rw [hmv_out hy2]
              rcases List.mem_append.mp hy with q | q
              · exact absurd q hy2
              · exact k4 y q
        · rw [ud_n Ls _ et]
          exact ch_oth (N := ud (giM M (c + 3)) a (giM M (c + 1) to)) (H := hmv (giM M (c + 4)) (nI to) (Ls l)) h hk (ud_n _ _ et) (ud_n _ _ et) (fun x hx => ud_n _ _ (nem' (hdj k hk ek x hx) ha)) (fun x hx => hmv_out (hdj k hk ek x hx))
    · intro x hx
      simp (disch := omega) only [giM_ud, giM_un, gi_sas, gi_san]
      exact hmv_out hx
theorem thing_loop (S : ChS M c n1 n2) {j : Nat} (hj : j < 2000) : ∀ (xs : List Nat) (f k : Nat) (x : Int32), LSg (giM M (c + 3)) x xs mI → (∀ t ∈ xs, t < n2) → k ≤ j → (hk : j - k < xs.length) → xs.length < f → LC_thingAt_39 f c (nI j) x (nI k) M = some (nI (xs[j - k]'hk), M) := by
  have hb := S.1
  intro xs
  induction xs with
  | nil => intro f k x _ _ _ hk; exact absurd hk (Nat.not_lt_zero _)
  | cons t ts ih =>
    intro f k x hx ht hkj hk hf
    obtain ⟨g, rfl⟩ : ∃ g, f = g + 1 := ⟨f - 1, by omega⟩
    obtain ⟨rfl, hx⟩ := hx
    have h1 := ht t List.mem_cons_self
    rw [List.length_cons] at hf
    show BC_thingAt_39 (LC_thingAt_39 g) c (nI j) (nI t) (nI k) M = _
    by_cases hjk : j = k
    · subst hjk
      simp (disch := omega) only [BC_thingAt_39, gd1, bs1, ↓reduceIte, d_nz, d_nn, or_true, true_or, or_false, false_or, decide_true, Sum.elim_inl, Sum.elim_inr, ↓l_m1, l_0, l_1, l_2, l_3, l_4, l_5, l_6, l_7, l_8, l_9, l_10, l_16, l_17, l_18, l_20, l_23, l_24, l_30, l_31, l_32, l_39, l_40, l_41, l_48, l_57, l_58, l_59, l_60, l_63, l_90, l_97, l_98, l_99, l_100, l_102, l_103, l_104, l_107, l_109, l_112, l_115, l_116, l_117, l_120, l_122, l_126, l_166, l_180, l_240, l_255, l_640, l_999, l_2656, l_3064, l_3704, l_3708, l_3712, l_3713, l_3893, l_155720, l_1000000, n_ltT, n_ltF, n_leT, n_leF, n_eqT, n_eqF, n_eqm, n_eqm', n_mltn, n_mlen, n_nltm, n_nlem, n_mltm, n_mlem, n_add, n_mul, n_sub, n_subm, n_cl, n_ofNat, n_div, n_mod, obM_si, rdI_si, wrI_si, lnI_si, grM_si', tgM_si', obM_sa, rdI_sa, wrI_sa, lnI_sa, grM_sa', tgM_sa', cs_ob S, cs_g0 S, cs_g1 S, cs_g2 S, cs_g3 S, cs_t1 S, cs_t2 S, cs_t3 S, cs_t4 S, cs_r1 S, cs_r2 S, cs_r3 S, cs_r4 S, cs_w1 S, cs_w2 S, cs_w3 S, cs_w4 S, cs_l1 S, cs_l2 S, cs_l3 S, cs_l4 S, Nat.sub_self, List.getElem_cons_zero]
    · have hk2 : j - (k + 1) < ts.length := by
        have := hk
        rw [List.length_cons] at this
        omega
      have h2 := ih g (k + 1) _ hx (fun y hy => ht y (List.mem_cons_of_mem _ hy)) (by omega) hk2 (by omega)
      have e : (t :: ts)[j - k]'hk = ts[j - (k + 1)]'hk2 := by
        have : j - k = (j - (k + 1)) + 1 := by omega
        simp only [this, List.getElem_cons_succ]
      rw [e]
      simp (disch := omega) only [BC_thingAt_39, gd1, bs1, ↓reduceIte, d_nz, d_nn, or_true, true_or, or_false, false_or, decide_true, Sum.elim_inl, Sum.elim_inr, ↓l_m1, l_0, l_1, l_2, l_3, l_4, l_5, l_6, l_7, l_8, l_9, l_10, l_16, l_17, l_18, l_20, l_23, l_24, l_30, l_31, l_32, l_39, l_40, l_41, l_48, l_57, l_58, l_59, l_60, l_63, l_90, l_97, l_98, l_99, l_100, l_102, l_103, l_104, l_107, l_109, l_112, l_115, l_116, l_117, l_120, l_122, l_126, l_166, l_180, l_240, l_255, l_640, l_999, l_2656, l_3064, l_3704, l_3708, l_3712, l_3713, l_3893, l_155720, l_1000000, n_ltT, n_ltF, n_leT, n_leF, n_eqT, n_eqF, n_eqm, n_eqm', n_mltn, n_mlen, n_nltm, n_nlem, n_mltm, n_mlem, n_add, n_mul, n_sub, n_subm, n_cl, n_ofNat, n_div, n_mod, obM_si, rdI_si, wrI_si, lnI_si, grM_si', tgM_si', obM_sa, rdI_sa, wrI_sa, lnI_sa, grM_sa', tgM_sa', cs_ob S, cs_g0 S, cs_g1 S, cs_g2 S, cs_g3 S, cs_t1 S, cs_t2 S, cs_t3 S, cs_t4 S, cs_r1 S, cs_r2 S, cs_r3 S, cs_r4 S, cs_w1 S, cs_w2 S, cs_w3 S, cs_w4 S, cs_l1 S, cs_l2 S, cs_l3 S, cs_l4 S, h2]
theorem thing_ok (S : ChS M c n1 n2) (h : ChM M c Ls n1 n2) (hl : l < n1) {j : Nat} (hj : j < (Ls l).length) : fC_thingAt c (nI l) (nI j) M = some (nI ((Ls l)[j]'hj), M) := by
  have hb := S.1
  have hn := ch_len h hl
  obtain ⟨h1, h2, h3, h4⟩ := h l hl
  have e := thing_loop S (j := j) (by omega) (Ls l) 1000000 0 _ h1 (fun y hy => (h4 y hy).1) (Nat.zero_le _) (by omega) (by omega)
  simp (disch := omega) only [fC_thingAt, gd1, bs1, ↓reduceIte, d_nz, d_nn, or_true, true_or, or_false, false_or, decide_true, Sum.elim_inl, Sum.elim_inr, ↓l_m1, l_0, l_1, l_2, l_3, l_4, l_5, l_6, l_7, l_8, l_9, l_10, l_16, l_17, l_18, l_20, l_23, l_24, l_30, l_31, l_32, l_39, l_40, l_41, l_48, l_57, l_58, l_59, l_60, l_63, l_90, l_97, l_98, l_99, l_100, l_102, l_103, l_104, l_107, l_109, l_112, l_115, l_116, l_117, l_120, l_122, l_126, l_166, l_180, l_240, l_255, l_640, l_999, l_2656, l_3064, l_3704, l_3708, l_3712, l_3713, l_3893, l_155720, l_1000000, n_ltT, n_ltF, n_leT, n_leF, n_eqT, n_eqF, n_eqm, n_eqm', n_mltn, n_mlen, n_nltm, n_nlem, n_mltm, n_mlem, n_add, n_mul, n_sub, n_subm, n_cl, n_ofNat, n_div, n_mod, obM_si, rdI_si, wrI_si, lnI_si, grM_si', tgM_si', obM_sa, rdI_sa, wrI_sa, lnI_sa, grM_sa', tgM_sa', cs_ob S, cs_g0 S, cs_g1 S, cs_g2 S, cs_g3 S, cs_t1 S, cs_t2 S, cs_t3 S, cs_t4 S, cs_r1 S, cs_r2 S, cs_r3 S, cs_r4 S, cs_w1 S, cs_w2 S, cs_w3 S, cs_w4 S, cs_l1 S, cs_l2 S, cs_l3 S, cs_l4 S, h2, e, BC_thingAt_63, Nat.sub_zero]
theorem thing_no (S : ChS M c n1 n2) (h : ChM M c Ls n1 n2) (hl : l < n1) {v : Int32} (hv : v < nI 0 ∨ nI (Ls l).length ≤ v) : fC_thingAt c (nI l) v M = some (mI, M) := by
  have hb := S.1
  obtain ⟨h1, h2, h3, h4⟩ := h l hl
  by_cases h0 : v < nI 0
  · simp (disch := omega) only [fC_thingAt, gd1, bs1, ↓reduceIte, d_nz, d_nn, or_true, true_or, or_false, false_or, decide_true, Sum.elim_inl, Sum.elim_inr, ↓l_m1, l_0, l_1, l_2, l_3, l_4, l_5, l_6, l_7, l_8, l_9, l_10, l_16, l_17, l_18, l_20, l_23, l_24, l_30, l_31, l_32, l_39, l_40, l_41, l_48, l_57, l_58, l_59, l_60, l_63, l_90, l_97, l_98, l_99, l_100, l_102, l_103, l_104, l_107, l_109, l_112, l_115, l_116, l_117, l_120, l_122, l_126, l_166, l_180, l_240, l_255, l_640, l_999, l_2656, l_3064, l_3704, l_3708, l_3712, l_3713, l_3893, l_155720, l_1000000, n_ltT, n_ltF, n_leT, n_leF, n_eqT, n_eqF, n_eqm, n_eqm', n_mltn, n_mlen, n_nltm, n_nlem, n_mltm, n_mlem, n_add, n_mul, n_sub, n_subm, n_cl, n_ofNat, n_div, n_mod, obM_si, rdI_si, wrI_si, lnI_si, grM_si', tgM_si', obM_sa, rdI_sa, wrI_sa, lnI_sa, grM_sa', tgM_sa', cs_ob S, cs_g0 S, cs_g1 S, cs_g2 S, cs_g3 S, cs_t1 S, cs_t2 S, cs_t3 S, cs_t4 S, cs_r1 S, cs_r2 S, cs_r3 S, cs_r4 S, cs_w1 S, cs_w2 S, cs_w3 S, cs_w4 S, cs_l1 S, cs_l2 S, cs_l3 S, cs_l4 S, h0, BC_thingAt_27]
  · have h5 : ¬ v < nI (Ls l).length := by
      rcases hv with q | q
      · exact absurd q h0
      · exact fun r => Int32.lt_irrefl (Int32.lt_of_lt_of_le r q)
    simp (disch := omega) only [fC_thingAt, gd1, bs1, ↓reduceIte, d_nz, d_nn, or_true, true_or, or_false, false_or, decide_true, Sum.elim_inl, Sum.elim_inr, ↓l_m1, l_0, l_1, l_2, l_3, l_4, l_5, l_6, l_7, l_8, l_9, l_10, l_16, l_17, l_18, l_20, l_23, l_24, l_30, l_31, l_32, l_39, l_40, l_41, l_48, l_57, l_58, l_59, l_60, l_63, l_90, l_97, l_98, l_99, l_100, l_102, l_103, l_104, l_107, l_109, l_112, l_115, l_116, l_117, l_120, l_122, l_126, l_166, l_180, l_240, l_255, l_640, l_999, l_2656, l_3064, l_3704, l_3708, l_3712, l_3713, l_3893, l_155720, l_1000000, n_ltT, n_ltF, n_leT, n_leF, n_eqT, n_eqF, n_eqm, n_eqm', n_mltn, n_mlen, n_nltm, n_nlem, n_mltm, n_mlem, n_add, n_mul, n_sub, n_subm, n_cl, n_ofNat, n_div, n_mod, obM_si, rdI_si, wrI_si, lnI_si, grM_si', tgM_si', obM_sa, rdI_sa, wrI_sa, lnI_sa, grM_sa', tgM_sa', cs_ob S, cs_g0 S, cs_g1 S, cs_g2 S, cs_g3 S, cs_t1 S, cs_t2 S, cs_t3 S, cs_t4 S, cs_r1 S, cs_r2 S, cs_r3 S, cs_r4 S, cs_w1 S, cs_w2 S, cs_w3 S, cs_w4 S, cs_l1 S, cs_l2 S, cs_l3 S, cs_l4 S, h0, h2, h5, BC_thingAt_27]
theorem place_loop (S : ChS M c n1 n2) (ht : t < n2) : ∀ (xs : List Nat) (f i : Nat) (x : Int32), LSg (giM M (c + 3)) x xs mI → (∀ y ∈ xs, y < n2) → t ∈ xs → i + xs.length ≤ n2 → xs.length < f → LC_placeOf_39 f c (nI t) (nI i) x M = some (nI (i + xs.idxOf t), M) := by
  have hb := S.1
  intro xs
  induction xs with
  | nil => intro f i x _ _ h; cases h
  | cons y ys ih =>
    intro f i x hx hlt hm hi hf
    obtain ⟨g, rfl⟩ : ∃ g, f = g + 1 := ⟨f - 1, by omega⟩
    obtain ⟨rfl, hx⟩ := hx
    have h1 := hlt y List.mem_cons_self
    rw [List.length_cons] at hi hf
    show BC_placeOf_39 (LC_placeOf_39 g) c (nI t) (nI i) (nI y) M = _
    by_cases hy : y = t
    · subst hy
      simp (disch := omega) only [BC_placeOf_39, gd1, bs1, ↓reduceIte, d_nz, d_nn, or_true, true_or, or_false, false_or, decide_true, Sum.elim_inl, Sum.elim_inr, ↓l_m1, l_0, l_1, l_2, l_3, l_4, l_5, l_6, l_7, l_8, l_9, l_10, l_16, l_17, l_18, l_20, l_23, l_24, l_30, l_31, l_32, l_39, l_40, l_41, l_48, l_57, l_58, l_59, l_60, l_63, l_90, l_97, l_98, l_99, l_100, l_102, l_103, l_104, l_107, l_109, l_112, l_115, l_116, l_117, l_120, l_122, l_126, l_166, l_180, l_240, l_255, l_640, l_999, l_2656, l_3064, l_3704, l_3708, l_3712, l_3713, l_3893, l_155720, l_1000000, n_ltT, n_ltF, n_leT, n_leF, n_eqT, n_eqF, n_eqm, n_eqm', n_mltn, n_mlen, n_nltm, n_nlem, n_mltm, n_mlem, n_add, n_mul, n_sub, n_subm, n_cl, n_ofNat, n_div, n_mod, obM_si, rdI_si, wrI_si, lnI_si, grM_si', tgM_si', obM_sa, rdI_sa, wrI_sa, lnI_sa, grM_sa', tgM_sa', cs_ob S, cs_g0 S, cs_g1 S, cs_g2 S, cs_g3 S, cs_t1 S, cs_t2 S, cs_t3 S, cs_t4 S, cs_r1 S, cs_r2 S, cs_r3 S, cs_r4 S, cs_w1 S, cs_w2 S, cs_w3 S, cs_w4 S, cs_l1 S, cs_l2 S, cs_l3 S, cs_l4 S, List.idxOf_cons_self, Nat.add_zero]
    · have hm2 : t ∈ ys := by
        rcases List.mem_cons.mp hm with q | q
        · exact absurd q.symm hy
        · exact q
      have h2 := ih g (i + 1) _ hx (fun z hz => hlt z (List.mem_cons_of_mem _ hz)) hm2 (by omega) (by omega)
      have e : (y :: ys).idxOf t = ys.idxOf t + 1 := by rw [List.idxOf_cons, beq_false_of_ne hy]; rfl
      rw [e, show i + (ys.idxOf t + 1) = i + 1 + ys.idxOf t by omega]
      simp (disch := omega) only [BC_placeOf_39, gd1, bs1, ↓reduceIte, d_nz, d_nn, or_true, true_or, or_false, false_or, decide_true, Sum.elim_inl, Sum.elim_inr, ↓l_m1, l_0, l_1, l_2, l_3, l_4, l_5, l_6, l_7, l_8, l_9, l_10, l_16, l_17, l_18, l_20, l_23, l_24, l_30, l_31, l_32, l_39, l_40, l_41, l_48, l_57, l_58, l_59, l_60, l_63, l_90, l_97, l_98, l_99, l_100, l_102, l_103, l_104, l_107, l_109, l_112, l_115, l_116, l_117, l_120, l_122, l_126, l_166, l_180, l_240, l_255, l_640, l_999, l_2656, l_3064, l_3704, l_3708, l_3712, l_3713, l_3893, l_155720, l_1000000, n_ltT, n_ltF, n_leT, n_leF, n_eqT, n_eqF, n_eqm, n_eqm', n_mltn, n_mlen, n_nltm, n_nlem, n_mltm, n_mlem, n_add, n_mul, n_sub, n_subm, n_cl, n_ofNat, n_div, n_mod, obM_si, rdI_si, wrI_si, lnI_si, grM_si', tgM_si', obM_sa, rdI_sa, wrI_sa, lnI_sa, grM_sa', tgM_sa', cs_ob S, cs_g0 S, cs_g1 S, cs_g2 S, cs_g3 S, cs_t1 S, cs_t2 S, cs_t3 S, cs_t4 S, cs_r1 S, cs_r2 S, cs_r3 S, cs_r4 S, cs_w1 S, cs_w2 S, cs_w3 S, cs_w4 S, cs_l1 S, cs_l2 S, cs_l3 S, cs_l4 S, h2]
theorem place_ok (S : ChS M c n1 n2) (h : ChM M c Ls n1 n2) (hl : l < n1) (hm : t ∈ Ls l) : fC_placeOf c (nI t) M = some (nI ((Ls l).idxOf t), M) := by
  have hb := S.1
  have hn := ch_len h hl
  obtain ⟨h1, h2, h3, h4⟩ := h l hl
  obtain ⟨ht, hh⟩ := h4 t hm
  have e := place_loop S ht (Ls l) 1000000 0 _ h1 (fun y hy => (h4 y hy).1) hm (by omega) (by omega)
  simp (disch := omega) only [fC_placeOf, gd1, bs1, ↓reduceIte, d_nz, d_nn, or_true, true_or, or_false, false_or, decide_true, Sum.elim_inl, Sum.elim_inr, ↓l_m1, l_0, l_1, l_2, l_3, l_4, l_5, l_6, l_7, l_8, l_9, l_10, l_16, l_17, l_18, l_20, l_23, l_24, l_30, l_31, l_32, l_39, l_40, l_41, l_48, l_57, l_58, l_59, l_60, l_63, l_90, l_97, l_98, l_99, l_100, l_102, l_103, l_104, l_107, l_109, l_112, l_115, l_116, l_117, l_120, l_122, l_126, l_166, l_180, l_240, l_255, l_640, l_999, l_2656, l_3064, l_3704, l_3708, l_3712, l_3713, l_3893, l_155720, l_1000000, n_ltT, n_ltF, n_leT, n_leF, n_eqT, n_eqF, n_eqm, n_eqm', n_mltn, n_mlen, n_nltm, n_nlem, n_mltm, n_mlem, n_add, n_mul, n_sub, n_subm, n_cl, n_ofNat, n_div, n_mod, obM_si, rdI_si, wrI_si, lnI_si, grM_si', tgM_si', obM_sa, rdI_sa, wrI_sa, lnI_sa, grM_sa', tgM_sa', cs_ob S, cs_g0 S, cs_g1 S, cs_g2 S, cs_g3 S, cs_t1 S, cs_t2 S, cs_t3 S, cs_t4 S, cs_r1 S, cs_r2 S, cs_r3 S, cs_r4 S, cs_w1 S, cs_w2 S, cs_w3 S, cs_w4 S, cs_l1 S, cs_l2 S, cs_l3 S, cs_l4 S, hh, e, BC_placeOf_71, Nat.zero_add]
theorem place_no (S : ChS M c n1 n2) (ht : t < n2) (hh : giM M (c + 4) t = mI) : fC_placeOf c (nI t) M = some (mI, M) := by
  have hb := S.1
  simp (disch := omega) only [fC_placeOf, gd1, bs1, ↓reduceIte, d_nz, d_nn, or_true, true_or, or_false, false_or, decide_true, Sum.elim_inl, Sum.elim_inr, ↓l_m1, l_0, l_1, l_2, l_3, l_4, l_5, l_6, l_7, l_8, l_9, l_10, l_16, l_17, l_18, l_20, l_23, l_24, l_30, l_31, l_32, l_39, l_40, l_41, l_48, l_57, l_58, l_59, l_60, l_63, l_90, l_97, l_98, l_99, l_100, l_102, l_103, l_104, l_107, l_109, l_112, l_115, l_116, l_117, l_120, l_122, l_126, l_166, l_180, l_240, l_255, l_640, l_999, l_2656, l_3064, l_3704, l_3708, l_3712, l_3713, l_3893, l_155720, l_1000000, n_ltT, n_ltF, n_leT, n_leF, n_eqT, n_eqF, n_eqm, n_eqm', n_mltn, n_mlen, n_nltm, n_nlem, n_mltm, n_mlem, n_add, n_mul, n_sub, n_subm, n_cl, n_ofNat, n_div, n_mod, obM_si, rdI_si, wrI_si, lnI_si, grM_si', tgM_si', obM_sa, rdI_sa, wrI_sa, lnI_sa, grM_sa', tgM_sa', cs_ob S, cs_g0 S, cs_g1 S, cs_g2 S, cs_g3 S, cs_t1 S, cs_t2 S, cs_t3 S, cs_t4 S, cs_r1 S, cs_r2 S, cs_r3 S, cs_r4 S, cs_w1 S, cs_w2 S, cs_w3 S, cs_w4 S, cs_l1 S, cs_l2 S, cs_l3 S, cs_l4 S, hh, BC_placeOf_23]
end CH
/-! copies and fillings -/
def cpN (f g : Nat → Int32) (n : Nat) : Nat → Int32 := fun k => if k < n then f k else g k
theorem cp_cpy (f g : Nat → Int32) (n : Nat) : va_cpy f g 0 0 n = cpN f g n := by
  funext k
  unfold va_cpy cpN
  by_cases h : k < n
  · rw [if_pos ⟨Nat.zero_le _, by omega⟩, if_pos h]; congr 1; omega
  · rw [if_neg (by omega), if_neg h]
theorem cpN_lt {f g : Nat → Int32} {n k : Nat} (h : k < n) : cpN f g n k = f k := if_pos h
theorem cp_ok {M : Mem} {a b n m : Nat} (ha : arS M a n) (hb : arS M b n) (hm : m ≤ n) : cpM M a (nI 0) b (nI 0) (nI m) = true := by
  have h9 := ha.2.2
  unfold cpM
  rw [ha.1, hb.1, ha.2.1, hb.2.1]
  have e1 : (nI 0).toInt = 0 := rfl
  have e2 : (nI m).toInt = (m : Int) := nI_toInt (by omega)
  simp only [e1, e2, Bool.or_true, Bool.true_or, Bool.true_and, Bool.and_true, decide_eq_true_eq]
  simp
  omega
def flN (v : Int32) (g : Nat → Int32) (n : Nat) : Nat → Int32 := fun k => if k < n then v else g k
theorem flN_lt {g : Nat → Int32} {v : Int32} {n k : Nat} (h : k < n) : flN v g n k = v := if_pos h
theorem fill_ar {M : Mem} {a n : Nat} {v : Int32} (h : arS M a n) (hn : n < 1000000) : fY_fill a v M = some (saM M a (flN v (giM M a) n)) := by
  have e := fill_ok (v := v) h.1 (by rw [h.2.1]) (by rw [h.2.1]; exact hn)
  rw [h.2.1] at e
  exact e
