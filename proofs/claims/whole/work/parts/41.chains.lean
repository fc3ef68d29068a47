/-! CHAINS: lists in arrays -/
theorem d_nz {x : Nat} (h : 0 < x) : decide (x ≠ 0) = true := decide_eq_true (by omega)
def arS (M : Mem) (a n : Nat) : Prop := ownM M a = true ∧ tgM M a = (100, n) ∧ n < 2147483648
def ChS (M : Mem) (c n1 n2 : Nat) : Prop := (n1 ≤ 1000 ∧ n2 ≤ 1000) ∧ obM M c 0 4 = true ∧ (grM M c 0 = c + 1 ∧ grM M c 1 = c + 2 ∧ grM M c 2 = c + 3 ∧ grM M c 3 = c + 4) ∧ arS M (c + 1) n1 ∧ arS M (c + 2) n1 ∧ arS M (c + 3) n2 ∧ arS M (c + 4) n2
section CS
variable {M : Mem} {c n1 n2 i : Nat}
theorem cs_ob (S : ChS M c n1 n2) : obM M c 0 4 = true := S.2.1
theorem cs_g0 (S : ChS M c n1 n2) : grM M c 0 = c + 1 := S.2.2.1.1
theorem cs_g1 (S : ChS M c n1 n2) : grM M c 1 = c + 2 := S.2.2.1.2.1
theorem cs_g2 (S : ChS M c n1 n2) : grM M c 2 = c + 3 := S.2.2.1.2.2.1
theorem cs_g3 (S : ChS M c n1 n2) : grM M c 3 = c + 4 := S.2.2.1.2.2.2
theorem cs_t1 (S : ChS M c n1 n2) : tgM M (c + 1) = (100, n1) := S.2.2.2.1.2.1
theorem cs_t2 (S : ChS M c n1 n2) : tgM M (c + 2) = (100, n1) := S.2.2.2.2.1.2.1
theorem cs_t3 (S : ChS M c n1 n2) : tgM M (c + 3) = (100, n2) := S.2.2.2.2.2.1.2.1
theorem cs_t4 (S : ChS M c n1 n2) : tgM M (c + 4) = (100, n2) := S.2.2.2.2.2.2.2.1
theorem cs_r1 (S : ChS M c n1 n2) (h : i < n1) : rdI M (c + 1) (nI i) = true := ar_rd S.2.2.2.1 h
theorem cs_r2 (S : ChS M c n1 n2) (h : i < n1) : rdI M (c + 2) (nI i) = true := ar_rd S.2.2.2.2.1 h
theorem cs_r3 (S : ChS M c n1 n2) (h : i < n2) : rdI M (c + 3) (nI i) = true := ar_rd S.2.2.2.2.2.1 h
theorem cs_r4 (S : ChS M c n1 n2) (h : i < n2) : rdI M (c + 4) (nI i) = true := ar_rd S.2.2.2.2.2.2 h
theorem cs_w1 (S : ChS M c n1 n2) (h : i < n1) : wrI M (c + 1) (nI i) = true := ar_wr S.2.2.2.1 h
theorem cs_w2 (S : ChS M c n1 n2) (h : i < n1) : wrI M (c + 2) (nI i) = true := ar_wr S.2.2.2.2.1 h
theorem cs_w3 (S : ChS M c n1 n2) (h : i < n2) : wrI M (c + 3) (nI i) = true := ar_wr S.2.2.2.2.2.1 h
theorem cs_w4 (S : ChS M c n1 n2) (h : i < n2) : wrI M (c + 4) (nI i) = true := ar_wr S.2.2.2.2.2.2 h
theorem cs_l1 (S : ChS M c n1 n2) : lnI M (c + 1) = true := ar_ln S.2.2.2.1
theorem cs_l2 (S : ChS M c n1 n2) : lnI M (c + 2) = true := ar_ln S.2.2.2.2.1
theorem cs_l3 (S : ChS M c n1 n2) : lnI M (c + 3) = true := ar_ln S.2.2.2.2.2.1
theorem cs_l4 (S : ChS M c n1 n2) : lnI M (c + 4) = true := ar_ln S.2.2.2.2.2.2
theorem ChS_2 {M' : Mem} (e : M'.2 = M.2) (S : ChS M c n1 n2) : ChS M' c n1 n2 := by
  obtain ⟨I, T⟩ := M
  obtain ⟨I', T'⟩ := M'
  obtain rfl : T' = T := e
  exact S
end CS
/-- a list that is told by its first thing and what is next -/
def LL (N : Nat → Int32) : Int32 → List Nat → Prop
  | x, [] => x = -1
  | x, t :: ts => x = nI t ∧ LL N (N t) ts
theorem LL_ud {N : Nat → Int32} {t : Nat} {v : Int32} : ∀ {x : Int32} {xs : List Nat}, t ∉ xs → (LL (ud N t v) x xs ↔ LL N x xs)
  | x, [], _ => Iff.rfl
  | x, y :: ys, h => by
    have h1 : y ≠ t := fun e => h (by rw [e]; exact List.mem_cons_self)
    have h2 : t ∉ ys := fun e => h (List.mem_cons_of_mem _ e)
    show (x = nI y ∧ LL (ud N t v) (ud N t v y) ys) ↔ (x = nI y ∧ LL N (N y) ys)
    rw [ud_n N v h1, LL_ud h2]
/-- the lists of a chain: in arrays first, many, next, home -/
def ChR (F m N H : Nat → Int32) (Ls : Nat → List Nat) (n1 n2 : Nat) : Prop := ∀ l, l < n1 → LL N (F l) (Ls l) ∧ m l = nI (Ls l).length ∧ (Ls l).Nodup ∧ ∀ t ∈ Ls l, t < n2 ∧ H t = nI l
def ChM (M : Mem) (c : Nat) (Ls : Nat → List Nat) (n1 n2 : Nat) : Prop := ChR (giM M (c + 1)) (giM M (c + 2)) (giM M (c + 3)) (giM M (c + 4)) Ls n1 n2
def uL (Ls : Nat → List Nat) (l : Nat) (xs : List Nat) : Nat → List Nat := fun k => if k = l then xs else Ls k
theorem uL_s (Ls : Nat → List Nat) (l : Nat) (xs : List Nat) : uL Ls l xs l = xs := if_pos rfl
theorem uL_n (Ls : Nat → List Nat) {l k : Nat} (xs : List Nat) (h : k ≠ l) : uL Ls l xs k = Ls k := if_neg h
theorem nd_len {n : Nat} : ∀ {xs : List Nat}, xs.Nodup → (∀ t ∈ xs, t < n) → xs.length ≤ n := by
  induction n with
  | zero =>
    intro xs h hb
    cases xs with
    | nil => exact Nat.le_refl _
    | cons x xs => exact absurd (hb x List.mem_cons_self) (Nat.not_lt_zero _)
  | succ n ih =>
    intro xs h hb
    have h1 := ih (xs := xs.erase n) (h.erase n) (fun t ht => by
      have h2 := hb t (List.mem_of_mem_erase ht)
      have h3 : t ≠ n := fun e => by
        subst e
        exact (List.Nodup.not_mem_erase h) ht
      omega)
    have h4 := List.length_erase_le (a := n) (l := xs)
    have h5 : xs.length ≤ (xs.erase n).length + 1 := by
      rw [List.length_erase]
      split <;> omega
    omega
section PUSH
variable {M : Mem} {c n1 n2 l t : Nat} {Ls : Nat → List Nat}
/-- other cells and all but ints stay -/
def KeC (M M' : Mem) (c : Nat) : Prop := M'.2 = M.2 ∧ ∀ a, a < c + 1 ∨ c + 4 < a → giM M' a = giM M a
theorem ch_len (h : ChM M c Ls n1 n2) (hl : l < n1) : (Ls l).length ≤ n2 := nd_len (h l hl).2.2.1 (fun t ht => ((h l hl).2.2.2 t ht).1)
theorem push_ok (S : ChS M c n1 n2) (h : ChM M c Ls n1 n2) (hl : l < n1) (ht : t < n2) (hf : ∀ k, k < n1 → t ∉ Ls k) :
    ∃ M', fC_push c (nI l) (nI t) M = some M' ∧ KeC M M' c ∧ ChM M' c (uL Ls l (t :: Ls l)) n1 n2 := by
  have hb := S.1
  refine ⟨siM (siM (siM (siM M (c + 3) t (giM M (c + 1) l)) (c + 1) l (nI t)) (c + 4) t (nI l)) (c + 2) l (giM M (c + 2) l + 1), ?_, ⟨rfl, ?_⟩, ?_⟩
  · simp (disch := omega) only [fC_push, gd1, Option.bind_some, if_t, if_f, d_nz, cs_ob S, cs_g0 S, cs_g1 S, cs_g2 S, cs_g3 S, cs_t1 S, cs_t2 S, cs_t3 S, cs_t4 S, cs_r1 S, cs_r2 S, cs_r3 S, cs_r4 S, cs_w1 S, cs_w2 S, cs_w3 S, cs_w4 S, cs_l1 S, cs_l2 S, cs_l3 S, cs_l4 S, n_ltT, n_ltF, n_leT, n_leF, n_eqT, n_eqF, n_lt0F, n_0leT, n_0leF0, n_eq0T, n_eq0F, n_eqm, n_eqm', n_0ltT, n_0ltF, n_le0T, n_le0F, n_mltn, n_mlt0, n_nltm, n_nlem, n_mlen, n_add, n_add1, n_mul, n_sub, n_sub1, n_subm, n_cl, n_cl0, n_cl1, n_ofNat, n_div, n_rem, n_rem']
    simp (disch := omega) only [giM_un]
  · intro a ha
    simp (disch := omega) only [giM_un]
  · unfold ChM
    rw [giM_un (by omega), giM_un (by omega), giM_ud, giM_un (by omega)]
    rw [giM_ud, giM_un (by omega), giM_un (by omega), giM_un (by omega)]
    rw [giM_un (by omega), giM_un (by omega), giM_un (by omega), giM_ud, giM_un (by omega), giM_ud, giM_un (by omega), giM_un (by omega)]
    intro k hk
    by_cases e : k = l
    · subst e
      rw [ud_s, ud_s, uL_s]
      obtain ⟨h1, h2, h3, h4⟩ := h k hk
      refine ⟨⟨rfl, ?_⟩, ?_, ?_, ?_⟩
      · rw [ud_s, LL_ud (hf k hk)]; exact h1
      · rw [h2, n_add1]; rfl
      · exact List.nodup_cons.mpr ⟨hf k hk, h3⟩
      · intro y hy
        rcases List.mem_cons.mp hy with rfl | hy
        · exact ⟨ht, ud_s _ _ _⟩
        · obtain ⟨g1, g2⟩ := h4 y hy
          exact ⟨g1, by rw [ud_n _ _ (fun e => hf k hk (e ▸ hy))]; exact g2⟩
    · rw [ud_n _ _ e, ud_n _ _ e, uL_n _ _ e]
      obtain ⟨h1, h2, h3, h4⟩ := h k hk
      refine ⟨(LL_ud (hf k hk)).mpr h1, h2, h3, fun y hy => ?_⟩
      obtain ⟨g1, g2⟩ := h4 y hy
      exact ⟨g1, by rw [ud_n _ _ (fun e => hf k hk (e ▸ hy))]; exact g2⟩
end PUSH
