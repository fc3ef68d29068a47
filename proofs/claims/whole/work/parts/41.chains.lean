/-! CHAINS: lists in arrays -/
theorem nem {y t : Nat} {xs : List Nat} (h : t ∉ xs) (hy : y ∈ xs) : y ≠ t := fun e => h (e ▸ hy)
theorem nem' {y t : Nat} {xs : List Nat} (h : y ∉ xs) (ht : t ∈ xs) : y ≠ t := fun e => h (e ▸ ht)
def ChS (M : Mem) (c n1 n2 : Nat) : Prop := (n1 ≤ 1000 ∧ n2 ≤ 1000) ∧ obM M c 0 4 = true ∧ (grM M c 0 = c + 1 ∧ grM M c 1 = c + 2 ∧ grM M c 2 = c + 3 ∧ grM M c 3 = c + 4) ∧ arS M (c + 1) n1 ∧ arS M (c + 2) n1 ∧ arS M (c + 3) n2 ∧ arS M (c + 4) n2
section CS
variable {M : Mem} {c n1 n2 i : Nat}
theorem cs_ob (S : ChS M c n1 n2) : obM M c 0 4 = true := S.2.1
theorem cs_g0 (S : ChS M c n1 n2) : grM M c 0 = c + 1 := S.2.2.1.1
theorem cs_g1 (S : ChS M c n1 n2) : grM M c 1 = c + 2 := S.2.2.1.2.1
theorem cs_g2 (S : ChS M c n1 n2) : grM M c 2 = c + 3 := S.2.2.1.2.2.1
theorem cs_g3 (S : ChS M c n1 n2) : grM M c 3 = c + 4 := S.2.2.1.2.2.2
theorem cs_t1 (S : ChS M c n1 n2) : tgM M (c + 1) = (100, n1) := S.2.2.2.1.2.1
theorem cs_t2 (S : ChS M c n1 n2) : tgM M (c + 2) = (100, n1) := S.2.2.2.2.1.2.1
theorem cs_t3 (S : ChS M c n1 n2) : tgM M (c + 3) = (100, n2) := S.2.2.2.2.2.1.2.1
theorem cs_t4 (S : ChS M c n1 n2) : tgM M (c + 4) = (100, n2) := S.2.2.2.2.2.2.2.1
theorem cs_r1 (S : ChS M c n1 n2) (h : i < n1) : rdI M (c + 1) (nI i) = true := ar_rd S.2.2.2.1 h
theorem cs_r2 (S : ChS M c n1 n2) (h : i < n1) : rdI M (c + 2) (nI i) = true := ar_rd S.2.2.2.2.1 h
theorem cs_r3 (S : ChS M c n1 n2) (h : i < n2) : rdI M (c + 3) (nI i) = true := ar_rd S.2.2.2.2.2.1 h
theorem cs_r4 (S : ChS M c n1 n2) (h : i < n2) : rdI M (c + 4) (nI i) = true := ar_rd S.2.2.2.2.2.2 h
theorem cs_w1 (S : ChS M c n1 n2) (h : i < n1) : wrI M (c + 1) (nI i) = true := ar_wr S.2.2.2.1 h
theorem cs_w2 (S : ChS M c n1 n2) (h : i < n1) : wrI M (c + 2) (nI i) = true := ar_wr S.2.2.2.2.1 h
theorem cs_w3 (S : ChS M c n1 n2) (h : i < n2) : wrI M (c + 3) (nI i) = true := ar_wr S.2.2.2.2.2.1 h
theorem cs_w4 (S : ChS M c n1 n2) (h : i < n2) : wrI M (c + 4) (nI i) = true := ar_wr S.2.2.2.2.2.2 h
theorem cs_l1 (S : ChS M c n1 n2) : lnI M (c + 1) = true := ar_ln S.2.2.2.1
theorem cs_l2 (S : ChS M c n1 n2) : lnI M (c + 2) = true := ar_ln S.2.2.2.2.1
theorem cs_l3 (S : ChS M c n1 n2) : lnI M (c + 3) = true := ar_ln S.2.2.2.2.2.1
theorem cs_l4 (S : ChS M c n1 n2) : lnI M (c + 4) = true := ar_ln S.2.2.2.2.2.2
theorem ChS_2 {M' : Mem} (e : M'.2 = M.2) (S : ChS M c n1 n2) : ChS M' c n1 n2 := by
  obtain ⟨I, T⟩ := M
  obtain ⟨I', T'⟩ := M'
  obtain rfl : T' = T := e
  exact S
end CS
/-- a way along what is next: from x through xs to y -/
def LSg (N : Nat → Int32) : Int32 → List Nat → Int32 → Prop
  | x, [], y => x = y
  | x, t :: ts, y => x = nI t ∧ LSg N (N t) ts y
theorem LSg_ud {N : Nat → Int32} {t : Nat} {v : Int32} : ∀ {x : Int32} {xs : List Nat} {y : Int32}, t ∉ xs → (LSg (ud N t v) x xs y ↔ LSg N x xs y)
  | x, [], _, _ => Iff.rfl
  | x, z :: zs, y, h => by
    have h1 : z ≠ t := fun e => h (by rw [e]; exact List.mem_cons_self)
    have h2 : t ∉ zs := fun e => h (List.mem_cons_of_mem _ e)
    show (x = nI z ∧ LSg (ud N t v) (ud N t v z) zs y) ↔ (x = nI z ∧ LSg N (N z) zs y)
    rw [ud_n N v h1, LSg_ud h2]
theorem LSg_app {N : Nat → Int32} {ys : List Nat} {z : Int32} : ∀ {x : Int32} {xs : List Nat}, LSg N x (xs ++ ys) z ↔ ∃ y, LSg N x xs y ∧ LSg N y ys z
  | x, [] => ⟨fun h => ⟨x, rfl, h⟩, fun ⟨y, e, h⟩ => by cases e; exact h⟩
  | x, t :: ts => by
    show (x = nI t ∧ LSg N (N t) (ts ++ ys) z) ↔ ∃ y, (x = nI t ∧ LSg N (N t) ts y) ∧ LSg N y ys z
    rw [LSg_app]
    exact ⟨fun ⟨h1, y, h2, h3⟩ => ⟨y, ⟨h1, h2⟩, h3⟩, fun ⟨y, ⟨h1, h2⟩, h3⟩ => ⟨h1, y, h2, h3⟩⟩
/-- the lists of a chain: in arrays first, many, next, home -/
def ChR (F m N H : Nat → Int32) (Ls : Nat → List Nat) (n1 n2 : Nat) : Prop := ∀ l, l < n1 → LSg N (F l) (Ls l) mI ∧ m l = nI (Ls l).length ∧ (Ls l).Nodup ∧ ∀ t ∈ Ls l, t < n2 ∧ H t = nI l
def ChM (M : Mem) (c : Nat) (Ls : Nat → List Nat) (n1 n2 : Nat) : Prop := ChR (giM M (c + 1)) (giM M (c + 2)) (giM M (c + 3)) (giM M (c + 4)) Ls n1 n2
theorem nd_len {n : Nat} : ∀ {xs : List Nat}, xs.Nodup → (∀ t ∈ xs, t < n) → xs.length ≤ n := by
  induction n with
  | zero =>
    intro xs h hb
    cases xs with
    | nil => exact Nat.le_refl _
    | cons x xs => exact absurd (hb x List.mem_cons_self) (Nat.not_lt_zero _)
  | succ n ih =>
    intro xs h hb
    have h1 := ih (xs := xs.erase n) (h.erase n) (fun t ht => by
      have h2 := hb t (List.mem_of_mem_erase ht)
      have h3 : t ≠ n := fun e => by
        subst e
        exact (List.Nodup.not_mem_erase h) ht
      omega)
    have h5 : xs.length ≤ (xs.erase n).length + 1 := by
      rw [List.length_erase]
      split <;> omega
    omega
section CH
variable {M : Mem} {c n1 n2 l t : Nat} {Ls : Nat → List Nat}
theorem ch_len (h : ChM M c Ls n1 n2) (hl : l < n1) : (Ls l).length ≤ n2 := nd_len (h l hl).2.2.1 (fun t ht => ((h l hl).2.2.2 t ht).1)
theorem ch_dj (S : ChS M c n1 n2) (h : ChM M c Ls n1 n2) {k : Nat} (hl : l < n1) (hk : k < n1) (h1 : t ∈ Ls l) (h2 : t ∈ Ls k) : l = k := by
  have e1 := ((h l hl).2.2.2 t h1).2
  have e2 := ((h k hk).2.2.2 t h2).2
  have hb := S.1
  exact n_inj (by omega) (by omega) (e1.symm.trans e2)
theorem ch_eq {Ls' : Nat → List Nat} (h : ChM M c Ls n1 n2) (e : ∀ l, l < n1 → Ls' l = Ls l) : ChM M c Ls' n1 n2 := by
  intro l hl
  rw [e l hl]
  exact h l hl
theorem push_ok (S : ChS M c n1 n2) (h : ChM M c Ls n1 n2) (hl : l < n1) (ht : t < n2) (hf : ∀ k, k < n1 → t ∉ Ls k) :
    ∃ M', fC_push c (nI l) (nI t) M = some M' ∧ Fr M M' (c + 1) (c + 4) ∧ ChM M' c (ud Ls l (t :: Ls l)) n1 n2 ∧ ∀ x, x ≠ t → giM M' (c + 4) x = giM M (c + 4) x := by
  have hb := S.1
  refine ⟨siM (siM (siM (siM M (c + 3) t (giM M (c + 1) l)) (c + 1) l (nI t)) (c + 4) t (nI l)) (c + 2) l (giM M (c + 2) l + nI 1), ?_, ⟨rfl, ?_⟩, ?_, ?_⟩
  · simp (disch := omega) only [fC_push, gd1, bs1, ↓reduceIte, d_nz, d_nn, or_true, true_or, or_false, false_or, decide_true, Sum.elim_inl, Sum.elim_inr, ↓l_m1, l_0, l_1, l_2, l_3, l_4, l_5, l_6, l_7, l_8, l_9, l_10, l_16, l_17, l_18, l_20, l_23, l_24, l_30, l_31, l_32, l_39, l_40, l_41, l_48, l_57, l_58, l_59, l_60, l_63, l_90, l_97, l_98, l_99, l_100, l_102, l_103, l_104, l_107, l_109, l_112, l_115, l_116, l_117, l_120, l_122, l_126, l_166, l_180, l_240, l_255, l_640, l_999, l_2656, l_3064, l_3704, l_3708, l_3712, l_3713, l_3893, l_155720, l_1000000, n_ltT, n_ltF, n_leT, n_leF, n_eqT, n_eqF, n_eqm, n_eqm', n_mltn, n_mlen, n_nltm, n_nlem, n_mltm, n_mlem, n_add, n_mul, n_sub, n_subm, n_cl, n_ofNat, n_div, n_mod, obM_si, rdI_si, wrI_si, lnI_si, grM_si', tgM_si', obM_sa, rdI_sa, wrI_sa, lnI_sa, grM_sa', tgM_sa', cs_ob S, cs_g0 S, cs_g1 S, cs_g2 S, cs_g3 S, cs_t1 S, cs_t2 S, cs_t3 S, cs_t4 S, cs_r1 S, cs_r2 S, cs_r3 S, cs_r4 S, cs_w1 S, cs_w2 S, cs_w3 S, cs_w4 S, cs_l1 S, cs_l2 S, cs_l3 S, cs_l4 S, giM_un]
  · intro a ha
    simp (disch := omega) only [giM_un]
  · unfold ChM
    simp (disch := omega) only [giM_ud, giM_un]
    intro k hk
    by_cases e : k = l
    · subst e
      rw [ud_s, ud_s, ud_s]
      obtain ⟨h1, h2, h3, h4⟩ := h k hk
      refine ⟨⟨rfl, ?_⟩, ?_, ?_, ?_⟩
      · rw [ud_s, LSg_ud (hf k hk)]; exact h1
      · rw [h2, n_add]; rfl
      · exact List.nodup_cons.mpr ⟨hf k hk, h3⟩
      · intro y hy
        rcases List.mem_cons.mp hy with rfl | hy
        · exact ⟨ht, ud_s _ _ _⟩
        · obtain ⟨g1, g2⟩ := h4 y hy
          exact ⟨g1, by rw [ud_n _ _ (nem (hf k hk) hy)]; exact g2⟩
    · rw [ud_n _ _ e, ud_n _ _ e, ud_n _ _ e]
      obtain ⟨h1, h2, h3, h4⟩ := h k hk
      refine ⟨(LSg_ud (hf k hk)).mpr h1, h2, h3, fun y hy => ?_⟩
      obtain ⟨g1, g2⟩ := h4 y hy
      exact ⟨g1, by rw [ud_n _ _ (nem (hf k hk) hy)]; exact g2⟩
  · intro x hx
    simp (disch := omega) only [giM_ud, giM_un, ud_n]
theorem pop_ok {ts : List Nat} (S : ChS M c n1 n2) (h : ChM M c Ls n1 n2) (hl : l < n1) (e : Ls l = t :: ts) :
    ∃ M', fC_pop c (nI l) M = some (nI t, M') ∧ Fr M M' (c + 1) (c + 4) ∧ ChM M' c (ud Ls l ts) n1 n2 ∧ giM M' (c + 4) t = mI ∧ ∀ x, x ≠ t → giM M' (c + 4) x = giM M (c + 4) x := by
  have hb := S.1
  obtain ⟨h1, h2, h3, h4⟩ := h l hl
  rw [e] at h1 h2 h3 h4
  obtain ⟨e1, h1⟩ := h1
  have ht := (h4 t List.mem_cons_self).1
  obtain ⟨h31, h32⟩ := List.nodup_cons.mp h3
  refine ⟨siM (siM (siM (siM M (c + 1) l (giM M (c + 3) t)) (c + 3) t mI) (c + 4) t mI) (c + 2) l (nI ts.length), ?_, ⟨rfl, ?_⟩, ?_, ?_, ?_⟩
  · simp (disch := (first | omega | exact Nat.succ_pos _)) only [fC_pop, gd1, bs1, ↓reduceIte, d_nz, d_nn, or_true, true_or, or_false, false_or, decide_true, Sum.elim_inl, Sum.elim_inr, ↓l_m1, l_0, l_1, l_2, l_3, l_4, l_5, l_6, l_7, l_8, l_9, l_10, l_16, l_17, l_18, l_20, l_23, l_24, l_30, l_31, l_32, l_39, l_40, l_41, l_48, l_57, l_58, l_59, l_60, l_63, l_90, l_97, l_98, l_99, l_100, l_102, l_103, l_104, l_107, l_109, l_112, l_115, l_116, l_117, l_120, l_122, l_126, l_166, l_180, l_240, l_255, l_640, l_999, l_2656, l_3064, l_3704, l_3708, l_3712, l_3713, l_3893, l_155720, l_1000000, n_ltT, n_ltF, n_leT, n_leF, n_eqT, n_eqF, n_eqm, n_eqm', n_mltn, n_mlen, n_nltm, n_nlem, n_mltm, n_mlem, n_add, n_mul, n_sub, n_subm, n_cl, n_ofNat, n_div, n_mod, obM_si, rdI_si, wrI_si, lnI_si, grM_si', tgM_si', obM_sa, rdI_sa, wrI_sa, lnI_sa, grM_sa', tgM_sa', cs_ob S, cs_g0 S, cs_g1 S, cs_g2 S, cs_g3 S, cs_t1 S, cs_t2 S, cs_t3 S, cs_t4 S, cs_r1 S, cs_r2 S, cs_r3 S, cs_r4 S, cs_w1 S, cs_w2 S, cs_w3 S, cs_w4 S, cs_l1 S, cs_l2 S, cs_l3 S, cs_l4 S, e1, h2, giM_un, List.length_cons, Nat.add_sub_cancel]
  · intro a ha
    simp (disch := omega) only [giM_un]
  · unfold ChM
    simp (disch := omega) only [giM_ud, giM_un]
    intro k hk
    by_cases ek : k = l
    · subst ek
      rw [ud_s, ud_s, ud_s]
      refine ⟨(LSg_ud h31).mpr h1, rfl, h32, fun y hy => ?_⟩
      obtain ⟨g1, g2⟩ := h4 y (List.mem_cons_of_mem _ hy)
      exact ⟨g1, by rw [ud_n _ _ (nem h31 hy)]; exact g2⟩
    · have hn : t ∉ Ls k := fun q => ek (ch_dj S h hk hl q (by rw [e]; exact List.mem_cons_self))
      rw [ud_n _ _ ek, ud_n _ _ ek, ud_n _ _ ek]
      obtain ⟨g1, g2, g3, g4⟩ := h k hk
      refine ⟨(LSg_ud hn).mpr g1, g2, g3, fun y hy => ?_⟩
      obtain ⟨q1, q2⟩ := g4 y hy
      exact ⟨q1, by rw [ud_n _ _ (nem hn hy)]; exact q2⟩
  · simp (disch := omega) only [giM_ud, giM_un, ud_s]
  · intro x hx
    simp (disch := omega) only [giM_ud, giM_un, ud_n]
end CH
