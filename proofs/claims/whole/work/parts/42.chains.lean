/-- the last one along a list -/
def laI (d : Int32) : List Nat → Int32
  | [] => d
  | t :: ts => laI (nI t) ts
theorem laI_cc {a : Nat} : ∀ {d : Int32} {pre : List Nat}, laI d (pre ++ [a]) = nI a
  | _, [] => rfl
  | _, _ :: ts => laI_cc (pre := ts)
section CH
variable {M : Mem} {c n1 n2 l t : Nat} {Ls : Nat → List Nat}
theorem app_loop (S : ChS M c n1 n2) (v1 v2 : Int32) : ∀ (xs : List Nat) (f i : Nat) (d x : Int32), LSg (giM M (c + 3)) x xs mI → (∀ t ∈ xs, t < n2) → i + xs.length ≤ n2 → xs.length < f → LC_append_40 f c v1 v2 d (nI i) x M = some (laI d xs, M) := by
  have hb := S.1
  intro xs
  induction xs with
  | nil =>
    intro f i d x hx _ hi hf
    obtain ⟨g, rfl⟩ : ∃ g, f = g + 1 := ⟨f - 1, by omega⟩
    cases hx
    show BC_append_40 (LC_append_40 g) c v1 v2 d (nI i) mI M = _
    rcases Nat.lt_or_ge i n2 with h | h
    · simp (disch := omega) only [BC_append_40, gd1, bs1, ↓reduceIte, d_nz, d_nn, or_true, true_or, or_false, false_or, decide_true, Sum.elim_inl, Sum.elim_inr, ↓l_m1, l_0, l_1, l_2, l_3, l_4, l_5, l_6, l_7, l_8, l_9, l_10, l_16, l_17, l_18, l_20, l_23, l_24, l_30, l_31, l_32, l_39, l_40, l_41, l_48, l_57, l_58, l_59, l_60, l_63, l_90, l_97, l_98, l_99, l_100, l_102, l_103, l_104, l_107, l_109, l_112, l_115, l_116, l_117, l_120, l_122, l_126, l_166, l_180, l_240, l_255, l_640, l_999, l_2656, l_3064, l_3704, l_3708, l_3712, l_3713, l_3893, l_155720, l_1000000, n_ltT, n_ltF, n_leT, n_leF, n_eqT, n_eqF, n_eqm, n_eqm', n_mltn, n_mlen, n_nltm, n_nlem, n_mltm, n_mlem, n_add, n_mul, n_sub, n_subm, n_cl, n_ofNat, n_div, n_mod, obM_si, rdI_si, wrI_si, lnI_si, grM_si', tgM_si', obM_sa, rdI_sa, wrI_sa, lnI_sa, grM_sa', tgM_sa', cs_ob S, cs_g0 S, cs_g1 S, cs_g2 S, cs_g3 S, cs_t1 S, cs_t2 S, cs_t3 S, cs_t4 S, cs_r1 S, cs_r2 S, cs_r3 S, cs_r4 S, cs_w1 S, cs_w2 S, cs_w3 S, cs_w4 S, cs_l1 S, cs_l2 S, cs_l3 S, cs_l4 S, laI]
    · simp (disch := omega) only [BC_append_40, gd1, bs1, ↓reduceIte, d_nz, d_nn, or_true, true_or, or_false, false_or, decide_true, Sum.elim_inl, Sum.elim_inr, ↓l_m1, l_0, l_1, l_2, l_3, l_4, l_5, l_6, l_7, l_8, l_9, l_10, l_16, l_17, l_18, l_20, l_23, l_24, l_30, l_31, l_32, l_39, l_40, l_41, l_48, l_57, l_58, l_59, l_60, l_63, l_90, l_97, l_98, l_99, l_100, l_102, l_103, l_104, l_107, l_109, l_112, l_115, l_116, l_117, l_120, l_122, l_126, l_166, l_180, l_240, l_255, l_640, l_999, l_2656, l_3064, l_3704, l_3708, l_3712, l_3713, l_3893, l_155720, l_1000000, n_ltT, n_ltF, n_leT, n_leF, n_eqT, n_eqF, n_eqm, n_eqm', n_mltn, n_mlen, n_nltm, n_nlem, n_mltm, n_mlem, n_add, n_mul, n_sub, n_subm, n_cl, n_ofNat, n_div, n_mod, obM_si, rdI_si, wrI_si, lnI_si, grM_si', tgM_si', obM_sa, rdI_sa, wrI_sa, lnI_sa, grM_sa', tgM_sa', cs_ob S, cs_g0 S, cs_g1 S, cs_g2 S, cs_g3 S, cs_t1 S, cs_t2 S, cs_t3 S, cs_t4 S, cs_r1 S, cs_r2 S, cs_r3 S, cs_r4 S, cs_w1 S, cs_w2 S, cs_w3 S, cs_w4 S, cs_l1 S, cs_l2 S, cs_l3 S, cs_l4 S, laI]
  | cons t ts ih =>
    intro f i d x hx ht hi hf
    obtain ⟨g, rfl⟩ : ∃ g, f = g + 1 := ⟨f - 1, by omega⟩
    obtain ⟨rfl, hx⟩ := hx
    have h1 := ht t List.mem_cons_self
    rw [List.length_cons] at hi hf
    have h2 := ih g (i + 1) (nI t) _ hx (fun y hy => ht y (List.mem_cons_of_mem _ hy)) (by omega) (by omega)
    show BC_append_40 (LC_append_40 g) c v1 v2 d (nI i) (nI t) M = _
    simp (disch := omega) only [BC_append_40, gd1, bs1, ↓reduceIte, d_nz, d_nn, or_true, true_or, or_false, false_or, decide_true, Sum.elim_inl, Sum.elim_inr, ↓l_m1, l_0, l_1, l_2, l_3, l_4, l_5, l_6, l_7, l_8, l_9, l_10, l_16, l_17, l_18, l_20, l_23, l_24, l_30, l_31, l_32, l_39, l_40, l_41, l_48, l_57, l_58, l_59, l_60, l_63, l_90, l_97, l_98, l_99, l_100, l_102, l_103, l_104, l_107, l_109, l_112, l_115, l_116, l_117, l_120, l_122, l_126, l_166, l_180, l_240, l_255, l_640, l_999, l_2656, l_3064, l_3704, l_3708, l_3712, l_3713, l_3893, l_155720, l_1000000, n_ltT, n_ltF, n_leT, n_leF, n_eqT, n_eqF, n_eqm, n_eqm', n_mltn, n_mlen, n_nltm, n_nlem, n_mltm, n_mlem, n_add, n_mul, n_sub, n_subm, n_cl, n_ofNat, n_div, n_mod, obM_si, rdI_si, wrI_si, lnI_si, grM_si', tgM_si', obM_sa, rdI_sa, wrI_sa, lnI_sa, grM_sa', tgM_sa', cs_ob S, cs_g0 S, cs_g1 S, cs_g2 S, cs_g3 S, cs_t1 S, cs_t2 S, cs_t3 S, cs_t4 S, cs_r1 S, cs_r2 S, cs_r3 S, cs_r4 S, cs_w1 S, cs_w2 S, cs_w3 S, cs_w4 S, cs_l1 S, cs_l2 S, cs_l3 S, cs_l4 S, laI, h2]
theorem append_ok (S : ChS M c n1 n2) (h : ChM M c Ls n1 n2) (hl : l < n1) (ht : t < n2) (hf : ∀ k, k < n1 → t ∉ Ls k) :
    ∃ M', fC_append c (nI l) (nI t) M = some M' ∧ Fr M M' (c + 1) (c + 4) ∧ ChM M' c (ud Ls l (Ls l ++ [t])) n1 n2 ∧ giM M' (c + 4) t = nI l ∧ ∀ x, x ≠ t → giM M' (c + 4) x = giM M (c + 4) x := by
  have hb := S.1
  have hn := ch_len h hl
  obtain ⟨h1, h2, h3, h4⟩ := h l hl
  have e := app_loop S (nI l) (nI t) (Ls l) 1000000 0 mI _ h1 (fun y hy => (h4 y hy).1) (by omega) (by omega)
  have hft := hf l hl
  have e0 : (Ls l ++ [t]).length = (Ls l).length + 1 := by simp
  have oth : ∀ (F m N H : Nat → Int32) (k : Nat), k < n1 → k ≠ l → F k = giM M (c + 1) k → m k = giM M (c + 2) k → (∀ x, x ∉ Ls l → x ≠ t → N x = giM M (c + 3) x) → (∀ x, x ≠ t → H x = giM M (c + 4) x) → (LSg N (F k) (Ls k) mI ∧ m k = nI (Ls k).length ∧ (Ls k).Nodup ∧ ∀ y ∈ Ls k, y < n2 ∧ H y = nI k) := by
    intro F m N H k hk hkl eF em eN eH
    obtain ⟨g1, g2, g3, g4⟩ := h k hk
    rw [eF, em]
    have hdj : ∀ y ∈ Ls k, y ∉ Ls l ∧ y ≠ t := fun y hy => ⟨fun q => hkl (ch_dj S h hk hl hy q), nem (hf k hk) hy⟩
    refine ⟨?_, g2, g3, fun y hy => ⟨(g4 y hy).1, (eH y (hdj y hy).2).trans (g4 y hy).2⟩⟩
    clear g2 g3 g4
    have : ∀ (xs : List Nat) (x : Int32), (∀ y ∈ xs, N y = giM M (c + 3) y) → LSg (giM M (c + 3)) x xs mI → LSg N x xs mI := by
      intro xs
      induction xs with
      | nil => intro x _ h; exact h
      | cons y ys ih =>
        intro x hy h
        refine ⟨h.1, ?_⟩
        rw [hy y List.mem_cons_self]
        exact ih _ (fun z hz => hy z (List.mem_cons_of_mem _ hz)) h.2
    exact this _ _ (fun y hy => eN y (hdj y hy).1 (hdj y hy).2) g1
  rcases List.eq_nil_or_concat (Ls l) with e1 | ⟨pre, a, e1⟩
  · rw [e1] at h1 h2 e
    refine ⟨siM (siM (siM (siM M (c + 1) l (nI t)) (c + 3) t mI) (c + 4) t (nI l)) (c + 2) l (giM M (c + 2) l + nI 1), ?_, ⟨rfl, ?_⟩, ?_, ?_, ?_⟩
    · simp (disch := omega) only [fC_append, gd1, bs1, ↓reduceIte, d_nz, d_nn, or_true, true_or, or_false, false_or, decide_true, Sum.elim_inl, Sum.elim_inr, ↓l_m1, l_0, l_1, l_2, l_3, l_4, l_5, l_6, l_7, l_8, l_9, l_10, l_16, l_17, l_18, l_20, l_23, l_24, l_30, l_31, l_32, l_39, l_40, l_41, l_48, l_57, l_58, l_59, l_60, l_63, l_90, l_97, l_98, l_99, l_100, l_102, l_103, l_104, l_107, l_109, l_112, l_115, l_116, l_117, l_120, l_122, l_126, l_166, l_180, l_240, l_255, l_640, l_999, l_2656, l_3064, l_3704, l_3708, l_3712, l_3713, l_3893, l_155720, l_1000000, n_ltT, n_ltF, n_leT, n_leF, n_eqT, n_eqF, n_eqm, n_eqm', n_mltn, n_mlen, n_nltm, n_nlem, n_mltm, n_mlem, n_add, n_mul, n_sub, n_subm, n_cl, n_ofNat, n_div, n_mod, obM_si, rdI_si, wrI_si, lnI_si, grM_si', tgM_si', obM_sa, rdI_sa, wrI_sa, lnI_sa, grM_sa', tgM_sa', cs_ob S, cs_g0 S, cs_g1 S, cs_g2 S, cs_g3 S, cs_t1 S, cs_t2 S, cs_t3 S, cs_t4 S, cs_r1 S, cs_r2 S, cs_r3 S, cs_r4 S, cs_w1 S, cs_w2 S, cs_w3 S, cs_w4 S, cs_l1 S, cs_l2 S, cs_l3 S, cs_l4 S, e, laI, BC_append_74, BC_append_96, giM_un]
    · intro a ha
      simp (disch := omega) only [giM_un]
    · unfold ChM
      simp (disch := omega) only [giM_ud, giM_un]
      intro k hk
      by_cases ek : k = l
      · subst ek
        rw [ud_s, ud_s, ud_s, e1]
        refine ⟨⟨rfl, ud_s _ _ _⟩, ?_, by simp, fun y hy => ?_⟩
        · rw [h2, n_add]; rfl
        · cases List.mem_singleton.mp hy
          exact ⟨ht, ud_s _ _ _⟩
      · rw [ud_n Ls _ ek]
        exact oth _ _ (ud (giM M (c + 3)) t mI) (ud (giM M (c + 4)) t (nI l)) k hk ek (ud_n _ _ ek) (ud_n _ _ ek) (fun x _ hx => ud_n _ _ hx) (fun x hx => ud_n _ _ hx)
    · simp (disch := omega) only [giM_ud, giM_un, ud_s]
    · intro x hx
      simp (disch := omega) only [giM_ud, giM_un, ud_n]
  · have ha : a ∈ Ls l := by rw [e1]; simp
    have ha2 := (h4 a ha).1
    have hat : a ≠ t := nem hft ha
    rw [e1, List.concat_eq_append] at h1 h3
    rw [e1, List.concat_eq_append, laI_cc] at e
    obtain ⟨y, g1, g2, g3⟩ := LSg_app.mp h1
    subst g2
    have hap : a ∉ pre := fun q => (List.nodup_append.mp h3).2.2 a q a (by simp) rfl
    refine ⟨siM (siM (siM (siM M (c + 3) a (nI t)) (c + 3) t mI) (c + 4) t (nI l)) (c + 2) l (giM M (c + 2) l + nI 1), ?_, ⟨rfl, ?_⟩, ?_, ?_, ?_⟩
    · simp (disch := omega) only [fC_append, gd1, bs1, ↓reduceIte, d_nz, d_nn, or_true, true_or, or_false, false_or, decide_true, Sum.elim_inl, Sum.elim_inr, ↓l_m1, l_0, l_1, l_2, l_3, l_4, l_5, l_6, l_7, l_8, l_9, l_10, l_16, l_17, l_18, l_20, l_23, l_24, l_30, l_31, l_32, l_39, l_40, l_41, l_48, l_57, l_58, l_59, l_60, l_63, l_90, l_97, l_98, l_99, l_100, l_102, l_103, l_104, l_107, l_109, l_112, l_115, l_116, l_117, l_120, l_122, l_126, l_166, l_180, l_240, l_255, l_640, l_999, l_2656, l_3064, l_3704, l_3708, l_3712, l_3713, l_3893, l_155720, l_1000000, n_ltT, n_ltF, n_leT, n_leF, n_eqT, n_eqF, n_eqm, n_eqm', n_mltn, n_mlen, n_nltm, n_nlem, n_mltm, n_mlem, n_add, n_mul, n_sub, n_subm, n_cl, n_ofNat, n_div, n_mod, obM_si, rdI_si, wrI_si, lnI_si, grM_si', tgM_si', obM_sa, rdI_sa, wrI_sa, lnI_sa, grM_sa', tgM_sa', cs_ob S, cs_g0 S, cs_g1 S, cs_g2 S, cs_g3 S, cs_t1 S, cs_t2 S, cs_t3 S, cs_t4 S, cs_r1 S, cs_r2 S, cs_r3 S, cs_r4 S, cs_w1 S, cs_w2 S, cs_w3 S, cs_w4 S, cs_l1 S, cs_l2 S, cs_l3 S, cs_l4 S, e, laI, BC_append_74, BC_append_96, giM_un]
    · intro a ha
      simp (disch := omega) only [giM_un]
    · unfold ChM
      simp (disch := omega) only [giM_ud, giM_un]
      intro k hk
      by_cases ek : k = l
      · subst ek
        rw [ud_s, ud_s, e0]
        have htp : t ∉ pre := fun q => hft (by rw [e1]; simp [q])
        refine ⟨?_, ?_, ?_, fun y hy => ?_⟩
        · rw [e1, List.concat_eq_append, List.append_assoc]
          refine LSg_app.mpr ⟨nI a, (LSg_ud htp).mpr ((LSg_ud hap).mpr g1), rfl, ?_⟩
          rw [ud_n _ _ hat, ud_s]
          exact ⟨rfl, ud_s _ _ _⟩
        · rw [h2, n_add]
        · rw [e1, List.concat_eq_append]
          refine List.nodup_append.mpr ⟨h3, by simp, fun x hx y hy => ?_⟩
          cases List.mem_singleton.mp hy
          rintro rfl
          exact hft (by rw [e1, List.concat_eq_append]; exact hx)
        · rcases List.mem_append.mp hy with hy | hy
          · obtain ⟨q1, q2⟩ := h4 y hy
            exact ⟨q1, by rw [ud_n _ _ (nem hft hy)]; exact q2⟩
          · cases List.mem_singleton.mp hy
            exact ⟨ht, ud_s _ _ _⟩
      · rw [ud_n Ls _ ek]
        exact oth _ _ (ud (ud (giM M (c + 3)) a (nI t)) t mI) (ud (giM M (c + 4)) t (nI l)) k hk ek rfl (ud_n _ _ ek) (fun x hx hx2 => by rw [ud_n _ _ hx2, ud_n _ _ (nem' hx ha)]) (fun x hx => ud_n _ _ hx)
    · simp (disch := omega) only [giM_ud, giM_un, ud_s]
    · intro x hx
      simp (disch := omega) only [giM_ud, giM_un, ud_n]
end CH
