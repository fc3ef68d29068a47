theorem LSg_cg {N N' : Nat → Int32} {y : Int32} : ∀ (xs : List Nat) (x : Int32), (∀ z ∈ xs, N' z = N z) → LSg N x xs y → LSg N' x xs y := by
  intro xs
  induction xs with
  | nil => intro x _ h; exact h
  | cons z zs ih =>
    intro x hy h
    refine ⟨h.1, ?_⟩
    rw [hy z List.mem_cons_self]
    exact ih _ (fun w hw => hy w (List.mem_cons_of_mem _ hw)) h.2
def hmv (H : Nat → Int32) (v : Int32) : List Nat → Nat → Int32
  | [] => H
  | t :: ts => hmv (ud H t v) v ts
theorem hmv_out {v : Int32} {y : Nat} : ∀ {xs : List Nat} {H : Nat → Int32}, y ∉ xs → hmv H v xs y = H y
  | [], _, _ => rfl
  | t :: ts, H, h => by
    show hmv (ud H t v) v ts y = H y
    rw [hmv_out (fun q => h (List.mem_cons_of_mem _ q)), ud_n _ _ (nem' h List.mem_cons_self)]
theorem hmv_in {v : Int32} {y : Nat} : ∀ {xs : List Nat} {H : Nat → Int32}, y ∈ xs → hmv H v xs y = v
  | [], _, h => by cases h
  | t :: ts, H, h => by
    show hmv (ud H t v) v ts y = v
    by_cases hy : y ∈ ts
    · exact hmv_in hy
    · rw [hmv_out hy]
      rcases List.mem_cons.mp h with rfl | h
      · exact ud_s _ _ _
      · exact absurd h hy
section CH
variable {M : Mem} {c n1 n2 l t : Nat} {Ls : Nat → List Nat}
/-- a list that stays as it was -/
theorem ch_oth (h : ChM M c Ls n1 n2) {F m N H : Nat → Int32} (hl : l < n1) (eF : F l = giM M (c + 1) l) (em : m l = giM M (c + 2) l) (eN : ∀ x ∈ Ls l, N x = giM M (c + 3) x) (eH : ∀ x ∈ Ls l, H x = giM M (c + 4) x) : LSg N (F l) (Ls l) mI ∧ m l = nI (Ls l).length ∧ (Ls l).Nodup ∧ ∀ y ∈ Ls l, y < n2 ∧ H y = nI l := by
  obtain ⟨g1, g2, g3, g4⟩ := h l hl
  rw [eF, em]
  exact ⟨LSg_cg _ _ eN g1, g2, g3, fun y hy => ⟨(g4 y hy).1, (eH y hy).trans (g4 y hy).2⟩⟩
theorem drop_loop (S : ChS M c n1 n2) (v2 : Int32) (ht : t < n2) : ∀ (xs : List Nat) (f i : Nat) (d x : Int32), LSg (giM M (c + 3)) x xs (nI t) → (∀ y ∈ xs, y < n2 ∧ y ≠ t) → i + xs.length < n2 → xs.length < f → LC_drop_44 f c (nI t) v2 d (nI i) x M = some (laI d xs, M) := by
  have hb := S.1
  intro xs
  induction xs with
  | nil =>
    intro f i d x hx _ hi hf
    obtain ⟨g, rfl⟩ : ∃ g, f = g + 1 := ⟨f - 1, by omega⟩
    obtain rfl : x = nI t := hx
    rw [List.length_nil] at hi
    show BC_drop_44 (LC_drop_44 g) c (nI t) v2 d (nI i) (nI t) M = _
    simp (disch := omega) only [BC_drop_44, gd1, bs1, ↓reduceIte, d_nz, d_nn, or_true, true_or, or_false, false_or, decide_true, Sum.elim_inl, Sum.elim_inr, ↓l_m1, l_0, l_1, l_2, l_3, l_4, l_5, l_6, l_7, l_8, l_9, l_10, l_16, l_17, l_18, l_20, l_23, l_24, l_30, l_31, l_32, l_39, l_40, l_41, l_48, l_57, l_58, l_59, l_60, l_63, l_90, l_97, l_98, l_99, l_100, l_102, l_103, l_104, l_107, l_109, l_112, l_115, l_116, l_117, l_120, l_122, l_126, l_166, l_180, l_240, l_255, l_640, l_999, l_2656, l_3064, l_3704, l_3708, l_3712, l_3713, l_3893, l_155720, l_1000000, n_ltT, n_ltF, n_leT, n_leF, n_eqT, n_eqF, n_eqm, n_eqm', n_mltn, n_mlen, n_nltm, n_nlem, n_mltm, n_mlem, n_add, n_mul, n_sub, n_subm, n_cl, n_ofNat, n_div, n_mod, obM_si, rdI_si, wrI_si, lnI_si, grM_si', tgM_si', obM_sa, rdI_sa, wrI_sa, lnI_sa, grM_sa', tgM_sa', cs_ob S, cs_g0 S, cs_g1 S, cs_g2 S, cs_g3 S, cs_t1 S, cs_t2 S, cs_t3 S, cs_t4 S, cs_r1 S, cs_r2 S, cs_r3 S, cs_r4 S, cs_w1 S, cs_w2 S, cs_w3 S, cs_w4 S, cs_l1 S, cs_l2 S, cs_l3 S, cs_l4 S, laI]
  | cons y ys ih =>
    intro f i d x hx ht hi hf
    obtain ⟨g, rfl⟩ : ∃ g, f = g + 1 := ⟨f - 1, by omega⟩
    obtain ⟨rfl, hx⟩ := hx
    obtain ⟨h1, h3⟩ := ht y List.mem_cons_self
    rw [List.length_cons] at hi hf
    have h2 := ih g (i + 1) (nI y) _ hx (fun z hz => ht z (List.mem_cons_of_mem _ hz)) (by omega) (by omega)
    show BC_drop_44 (LC_drop_44 g) c (nI t) v2 d (nI i) (nI y) M = _
    simp (disch := omega) only [BC_drop_44, gd1, bs1, ↓reduceIte, d_nz, d_nn, or_true, true_or, or_false, false_or, decide_true, Sum.elim_inl, Sum.elim_inr, ↓l_m1, l_0, l_1, l_2, l_3, l_4, l_5, l_6, l_7, l_8, l_9, l_10, l_16, l_17, l_18, l_20, l_23, l_24, l_30, l_31, l_32, l_39, l_40, l_41, l_48, l_57, l_58, l_59, l_60, l_63, l_90, l_97, l_98, l_99, l_100, l_102, l_103, l_104, l_107, l_109, l_112, l_115, l_116, l_117, l_120, l_122, l_126, l_166, l_180, l_240, l_255, l_640, l_999, l_2656, l_3064, l_3704, l_3708, l_3712, l_3713, l_3893, l_155720, l_1000000, n_ltT, n_ltF, n_leT, n_leF, n_eqT, n_eqF, n_eqm, n_eqm', n_mltn, n_mlen, n_nltm, n_nlem, n_mltm, n_mlem, n_add, n_mul, n_sub, n_subm, n_cl, n_ofNat, n_div, n_mod, obM_si, rdI_si, wrI_si, lnI_si, grM_si', tgM_si', obM_sa, rdI_sa, wrI_sa, lnI_sa, grM_sa', tgM_sa', cs_ob S, cs_g0 S, cs_g1 S, cs_g2 S, cs_g3 S, cs_t1 S, cs_t2 S, cs_t3 S, cs_t4 S, cs_r1 S, cs_r2 S, cs_r3 S, cs_r4 S, cs_w1 S, cs_w2 S, cs_w3 S, cs_w4 S, cs_l1 S, cs_l2 S, cs_l3 S, cs_l4 S, laI, h2]
theorem drop_ok (S : ChS M c n1 n2) (h : ChM M c Ls n1 n2) (hl : l < n1) (hm : t ∈ Ls l) :
    ∃ M', fC_drop c (nI t) M = some M' ∧ Fr M M' (c + 1) (c + 4) ∧ ChM M' c (ud Ls l ((Ls l).erase t)) n1 n2 ∧ giM M' (c + 4) t = mI ∧ ∀ x, x ≠ t → giM M' (c + 4) x = giM M (c + 4) x := by
  have hb := S.1
  have hn := ch_len h hl
  obtain ⟨h1, h2, h3, h4⟩ := h l hl
  obtain ⟨ht, hh⟩ := h4 t hm
  obtain ⟨pre, post, e1⟩ := List.append_of_mem hm
  rw [e1] at h1 h3 hn
  obtain ⟨hd1, hd2, hd3⟩ := List.nodup_append.mp h3
  obtain ⟨hd4, hd5⟩ := List.nodup_cons.mp hd2
  have htp : t ∉ pre := fun q => hd3 t q t List.mem_cons_self rfl
  obtain ⟨y, g1, g2, g3⟩ := LSg_app.mp h1
  subst g2
  have hlen : (Ls l).length = pre.length + post.length + 1 := by rw [e1]; simp; omega
  rw [List.length_append, List.length_cons] at hn
  have hbd : ∀ y ∈ pre, y < n2 ∧ y ≠ t := fun y hy => ⟨(h4 y (by rw [e1]; simp [hy])).1, nem htp hy⟩
  have e := drop_loop S (nI l) ht pre 1000000 0 mI _ g1 hbd (by omega) (by omega)
  have er : (Ls l).erase t = pre ++ post := by
    rw [e1, List.erase_append_right _ htp, List.erase_cons_head]
  have hnd : (pre ++ post).Nodup := List.nodup_append.mpr ⟨hd1, hd5, fun a ha b hb => hd3 a ha b (List.mem_cons_of_mem _ hb)⟩
  have hin : ∀ y ∈ pre ++ post, y ∈ Ls l ∧ y ≠ t := fun y hy => by
    refine ⟨by rw [e1]; rcases List.mem_append.mp hy with q | q <;> simp [q], fun q => ?_⟩
    subst q
    rcases List.mem_append.mp hy with q | q
    · exact htp q
    · exact hd4 q
  have hoth : ∀ k, k < n1 → k ≠ l → ∀ x ∈ Ls k, x ∉ Ls l ∧ x ≠ t := fun k hk hkl x hx =>
    have q : x ∉ Ls l := fun q => hkl (ch_dj S h hk hl hx q)
    ⟨q, nem' q hm⟩
  rw [er]
  rcases List.eq_nil_or_concat pre with e2 | ⟨pr, a, e2⟩
  · subst e2
    have g1 : giM M (c + 1) l = nI t := g1
    refine ⟨siM (siM (siM (siM M (c + 1) l (giM M (c + 3) t)) (c + 3) t mI) (c + 4) t mI) (c + 2) l (giM M (c + 2) l - nI 1), ?_, ⟨rfl, ?_⟩, ?_, ?_, ?_⟩
    · simp (disch := omega) only [fC_drop, gd1, bs1, ↓reduceIte, d_nz, d_nn, or_true, true_or, or_false, false_or, decide_true, Sum.elim_inl, Sum.elim_inr, ↓l_m1, l_0, l_1, l_2, l_3, l_4, l_5, l_6, l_7, l_8, l_9, l_10, l_16, l_17, l_18, l_20, l_23, l_24, l_30, l_31, l_32, l_39, l_40, l_41, l_48, l_57, l_58, l_59, l_60, l_63, l_90, l_97, l_98, l_99, l_100, l_102, l_103, l_104, l_107, l_109, l_112, l_115, l_116, l_117, l_120, l_122, l_126, l_166, l_180, l_240, l_255, l_640, l_999, l_2656, l_3064, l_3704, l_3708, l_3712, l_3713, l_3893, l_155720, l_1000000, n_ltT, n_ltF, n_leT, n_leF, n_eqT, n_eqF, n_eqm, n_eqm', n_mltn, n_mlen, n_nltm, n_nlem, n_mltm, n_mlem, n_add, n_mul, n_sub, n_subm, n_cl, n_ofNat, n_div, n_mod, obM_si, rdI_si, wrI_si, lnI_si, grM_si', tgM_si', obM_sa, rdI_sa, wrI_sa, lnI_sa, grM_sa', tgM_sa', cs_ob S, cs_g0 S, cs_g1 S, cs_g2 S, cs_g3 S, cs_t1 S, cs_t2 S, cs_t3 S, cs_t4 S, cs_r1 S, cs_r2 S, cs_r3 S, cs_r4 S, cs_w1 S, cs_w2 S, cs_w3 S, cs_w4 S, cs_l1 S, cs_l2 S, cs_l3 S, cs_l4 S, hh, e, laI, BC_drop_84, BC_drop_116, giM_un]
    · intro a ha
      simp (disch := omega) only [giM_un]
    · unfold ChM
      simp (disch := omega) only [giM_ud, giM_un]
      intro k hk
      by_cases ek : k = l
      · subst ek
        rw [ud_s, ud_s, ud_s]
        refine ⟨(LSg_ud hd4).mpr g3, ?_, hnd, fun y hy => ?_⟩
        · rw [h2, hlen, n_sub (by omega)]
          congr 1
          simp
          try omega
        · obtain ⟨q1, q2⟩ := hin y hy
          exact ⟨(h4 y q1).1, by rw [ud_n _ _ q2]; exact (h4 y q1).2⟩
      · rw [ud_n Ls _ ek]
        exact ch_oth h hk (ud_n _ _ ek) (ud_n _ _ ek) (fun x hx => ud_n _ _ (hoth k hk ek x hx).2) (fun x hx => ud_n _ _ (hoth k hk ek x hx).2)
    · simp (disch := omega) only [giM_ud, giM_un, ud_s]
    · intro x hx
      simp (disch := omega) only [giM_ud, giM_un, ud_n]
  · rw [List.concat_eq_append] at e2
    subst e2
    have ha : a ∈ Ls l := by rw [e1]; simp
    have ha2 := (h4 a ha).1
    have hat : a ≠ t := fun q => htp (by rw [← q]; simp)
    rw [laI_cc] at e
    obtain ⟨y, g1, g2, g4⟩ := LSg_app.mp g1
    subst g2
    have hap : a ∉ pr := fun q => (List.nodup_append.mp hd1).2.2 a q a (by simp) rfl
    have hapo : a ∉ post := fun q => hd3 a (by simp) a (List.mem_cons_of_mem _ q) rfl
    have htpr : t ∉ pr := fun q => htp (by simp [q])
    refine ⟨siM (siM (siM (siM M (c + 3) a (giM M (c + 3) t)) (c + 3) t mI) (c + 4) t mI) (c + 2) l (giM M (c + 2) l - nI 1), ?_, ⟨rfl, ?_⟩, ?_, ?_, ?_⟩
    · simp (disch := omega) only [fC_drop, gd1, bs1, ↓reduceIte, d_nz, d_nn, or_true, true_or, or_false, false_or, decide_true, Sum.elim_inl, Sum.elim_inr, ↓l_m1, l_0, l_1, l_2, l_3, l_4, l_5, l_6, l_7, l_8, l_9, l_10, l_16, l_17, l_18, l_20, l_23, l_24, l_30, l_31, l_32, l_39, l_40, l_41, l_48, l_57, l_58, l_59, l_60, l_63, l_90, l_97, l_98, l_99, l_100, l_102, l_103, l_104, l_107, l_109, l_112, l_115, l_116, l_117, l_120, l_122, l_126, l_166, l_180, l_240, l_255, l_640, l_999, l_2656, l_3064, l_3704, l_3708, l_3712, l_3713, l_3893, l_155720, l_1000000, n_ltT, n_ltF, n_leT, n_leF, n_eqT, n_eqF, n_eqm, n_eqm', n_mltn, n_mlen, n_nltm, n_nlem, n_mltm, n_mlem, n_add, n_mul, n_sub, n_subm, n_cl, n_ofNat, n_div, n_mod, obM_si, rdI_si, wrI_si, lnI_si, grM_si', tgM_si', obM_sa, rdI_sa, wrI_sa, lnI_sa, grM_sa', tgM_sa', cs_ob S, cs_g0 S, cs_g1 S, cs_g2 S, cs_g3 S, cs_t1 S, cs_t2 S, cs_t3 S, cs_t4 S, cs_r1 S, cs_r2 S, cs_r3 S, cs_r4 S, cs_w1 S, cs_w2 S, cs_w3 S, cs_w4 S, cs_l1 S, cs_l2 S, cs_l3 S, cs_l4 S, hh, e, laI, BC_drop_84, BC_drop_116, giM_un]
    · intro a ha
      simp (disch := omega) only [giM_un]
    · unfold ChM
      simp (disch := omega) only [giM_ud, giM_un]
      intro k hk
      by_cases ek : k = l
      · subst ek
        rw [ud_s, ud_s]
        refine ⟨?_, ?_, hnd, fun y hy => ?_⟩
        · rw [List.append_assoc]
          refine LSg_app.mpr ⟨nI a, (LSg_ud htpr).mpr ((LSg_ud hap).mpr g1), rfl, ?_⟩
          rw [ud_n _ _ hat, ud_s]
          exact (LSg_ud hd4).mpr ((LSg_ud hapo).mpr g3)
        · rw [h2, hlen, n_sub (by omega)]
          congr 1
          simp
          try omega
        · obtain ⟨q1, q2⟩ := hin y hy
          exact ⟨(h4 y q1).1, by rw [ud_n _ _ q2]; exact (h4 y q1).2⟩
      · rw [ud_n Ls _ ek]
        exact ch_oth h hk rfl (ud_n _ _ ek) (fun x hx => by rw [ud_n _ _ (hoth k hk ek x hx).2, ud_n _ _ (nem' (hoth k hk ek x hx).1 ha)]) (fun x hx => ud_n _ _ (hoth k hk ek x hx).2)
    · simp (disch := omega) only [giM_ud, giM_un, ud_s]
    · intro x hx
      simp (disch := omega) only [giM_ud, giM_un, ud_n]
theorem drop_none (S : ChS M c n1 n2) (ht : t < n2) (hh : giM M (c + 4) t = mI) : fC_drop c (nI t) M = some M := by
  have hb := S.1
  simp (disch := omega) only [fC_drop, gd1, bs1, ↓reduceIte, d_nz, d_nn, or_true, true_or, or_false, false_or, decide_true, Sum.elim_inl, Sum.elim_inr, ↓l_m1, l_0, l_1, l_2, l_3, l_4, l_5, l_6, l_7, l_8, l_9, l_10, l_16, l_17, l_18, l_20, l_23, l_24, l_30, l_31, l_32, l_39, l_40, l_41, l_48, l_57, l_58, l_59, l_60, l_63, l_90, l_97, l_98, l_99, l_100, l_102, l_103, l_104, l_107, l_109, l_112, l_115, l_116, l_117, l_120, l_122, l_126, l_166, l_180, l_240, l_255, l_640, l_999, l_2656, l_3064, l_3704, l_3708, l_3712, l_3713, l_3893, l_155720, l_1000000, n_ltT, n_ltF, n_leT, n_leF, n_eqT, n_eqF, n_eqm, n_eqm', n_mltn, n_mlen, n_nltm, n_nlem, n_mltm, n_mlem, n_add, n_mul, n_sub, n_subm, n_cl, n_ofNat, n_div, n_mod, obM_si, rdI_si, wrI_si, lnI_si, grM_si', tgM_si', obM_sa, rdI_sa, wrI_sa, lnI_sa, grM_sa', tgM_sa', cs_ob S, cs_g0 S, cs_g1 S, cs_g2 S, cs_g3 S, cs_t1 S, cs_t2 S, cs_t3 S, cs_t4 S, cs_r1 S, cs_r2 S, cs_r3 S, cs_r4 S, cs_w1 S, cs_w2 S, cs_w3 S, cs_w4 S, cs_l1 S, cs_l2 S, cs_l3 S, cs_l4 S, hh, BC_drop_23]
end CH
