/-! READING: a whole clause -/
def loS (j : Nat) : Nat := if j = 2 then 4 else 1
def hiS (j : Nat) : Nat := if j = 0 then 4 else if j = 1 then 16 else if j = 2 then 40 else if j = 3 then 9 else 30
def usS (j : Nat) : Nat := if j = 0 then 2 else if j = 1 then 6 else if j = 2 then 16 else if j = 3 then 3 else 8
section IC2
variable {M M1 M2 N : Mem} {l : List Nat} {a : Nat} {w : Int32}
theorem rdi_ok {tx aL aH tg : Nat} {v5 : Int32} {r : Mem ⊕ (Mem ⊕ Mem)} (h : LU_readItems_6 1000000 4 tx aL aH tg v5 (nI 0) (nI 0) M = some r) : fU_readItems 4 tx aL aH tg v5 M = some (outI r) := by
  unfold fU_readItems
  have h : LU_readItems_6 1000000 4 tx aL aH tg v5 0 0 M = some r := h
  rw [h, bs1n]
  rcases r with r | r | r <;> rfl
theorem cItS (lk : LOK l) (A : SHP M) (h : RdC M l a mI) (ha : a ≤ l.length) (hv : ∀ j, j < 5 → giM M 9 (0 + j) = nI (usS j)) : ∃ M', fU_readItems 4 6001 5001 5002 9 (nI 0) M = some M' ∧ FI 9 0 5 M M' ∧ ((∃ p f', itL 0 loS hiS l 6 a 0 usS = .inl (p, f') ∧ RdC M' l p mI ∧ p ≤ l.length ∧ ∀ j, j < 5 → giM M' 9 (0 + j) = nI (f' j)) ∨ (∃ p p', itL 0 loS hiS l 6 a 0 usS = .inr (.inl p) ∧ p ≤ 240 ∧ RdC M' l p' (nI p)) ∨ ∃ e p', itL 0 loS hiS l 6 a 0 usS = .inr (.inr e) ∧ e ≤ 240 ∧ RdC M' l p' (nI e)) := by
  obtain ⟨r, k, F, hh⟩ := itc_loop (i := 0) (tx := 6001) (aL := 5001) (aH := 5002) (tg := 9) (o := 0) (nT := 5) (many := 5) (lo := loS) (hi := hiS) lk (by decide) (fun M => len_ok (i := 0) (by omega) (by decide)) (fun M c hc => ixo_ok (i := 0) (by omega) (by decide) (by decide) hc) (by decide) (Or.inr rfl) (by omega) (by omega) (by decide) (by decide) (by omega) (by omega) (by decide) (by decide) (by decide) (by omega) (by omega) (by omega) (by omega) 5 1000000 M a 0 usS (by decide) (by decide) (by omega) A (sh_ar A (by omega) (by omega) (by decide) (by omega)) h ha hv
  exact ⟨outI r, rdi_ok k, F, hh⟩
theorem cItC {o : Nat} (lk : LOK l) (A : SHP M) (h : RdC M l a mI) (ha : a ≤ l.length) (ho : o < 6) (hv : giM M 10 o = nI 1) : ∃ M', fU_readItems 4 6002 5004 5005 10 (nI o) M = some M' ∧ FI 10 o 1 M M' ∧ ((∃ p f', itL 1 (fun _ => 1) (fun _ => 40) l 2 a 0 (fun _ => 1) = .inl (p, f') ∧ RdC M' l p mI ∧ p ≤ l.length ∧ giM M' 10 o = nI (f' 0)) ∨ (∃ p p', itL 1 (fun _ => 1) (fun _ => 40) l 2 a 0 (fun _ => 1) = .inr (.inl p) ∧ p ≤ 240 ∧ RdC M' l p' (nI p)) ∨ ∃ e p', itL 1 (fun _ => 1) (fun _ => 40) l 2 a 0 (fun _ => 1) = .inr (.inr e) ∧ e ≤ 240 ∧ RdC M' l p' (nI e)) := by
  obtain ⟨r, k, F, hh⟩ := itc_loop (i := 1) (tx := 6002) (aL := 5004) (aH := 5005) (tg := 10) (o := o) (nT := 6) (many := 1) (lo := fun _ => 1) (hi := fun _ => 40) lk (by decide) (fun M => len_ok (i := 1) (by omega) (by decide)) (fun M c hc => ixo_ok (i := 1) (by omega) (by decide) (by decide) hc) (by decide) (Or.inl ⟨rfl, rfl⟩) (by omega) (by omega) (by decide) (by decide) (by omega) (by omega) (by decide) (by decide) (by intro j _; exact ⟨by omega, by omega⟩) (by omega) (by omega) (by omega) (by omega) 1 1000000 M a 0 (fun _ => 1) (by decide) (by decide) (by omega) A (sh_ar A (by omega) (by omega) (by decide) (by omega)) h ha (fun j hj => by
    obtain rfl : j = 0 := by omega
    exact hv)
  refine ⟨outI r, rdi_ok k, F, ?_⟩
  rcases hh with ⟨p, f', h1, h2, h3, h4⟩ | h | h
  · exact Or.inl ⟨p, f', h1, h2, h3, h4 0 (by omega)⟩
  · exact Or.inr (Or.inl h)
  · exact Or.inr (Or.inr h)
/-! the reference -/
theorem us_loop {tg o nT many : Nat} {cl : Int32} {us : Nat → Nat} (hus : ∀ M j, j < many → fM_usual cl (nI j) M = some (nI (us j), M)) (htg : tg ≠ 1003) (htg2 : tg ≠ 1004) (ho : o + many ≤ nT) (hnT : nT < 100) : ∀ d k f M b, k + d = many → d < f → arS M tg nT → RdM M l b w → (∀ j, j < k → giM M tg (o + j) = nI (us j)) → ∃ M', LM_items_3 f 1003 cl tg (nI o) (nI many) (nI k) M = some M' ∧ FJ tg o many M M' ∧ RdM M' l b w ∧ ∀ j, j < many → giM M' tg (o + j) = nI (us j) := by
  intro d
  induction d with
  | zero =>
    intro k f M b hk hf hT h hv
    obtain ⟨g, rfl⟩ : ∃ g, f = g + 1 := ⟨f - 1, by omega⟩
    refine ⟨M, ?_, FJ_refl _ _ _ _, h, fun j hj => hv j (by omega)⟩
    show BM_items_3 (LM_items_3 g) 1003 cl tg (nI o) (nI many) (nI k) M = some M
    unfold BM_items_3
    rw [if_pos (of_eq_true (n_leT (by omega) (by omega)))]
  | succ d ih =>
    intro k f M b hk hf hT h hv
    obtain ⟨g, rfl⟩ : ∃ g, f = g + 1 := ⟨f - 1, by omega⟩
    have f1 : FJ tg o many M (siM M tg (o + k) (nI (us k))) := FJ_si htg (by omega) (by omega)
    obtain ⟨M', k1, F, r, hv'⟩ := ih (k + 1) g (siM M tg (o + k) (nI (us k))) b (by omega) (by omega) (arS_2 rfl hT) (RdM_si h htg htg2) (fun j hj => by
      rw [giM_ud, ud_at]
      by_cases e : j = k
      · rw [if_pos (by omega), e]
      · rw [if_neg (by omega)]
        exact hv j (by omega))
    refine ⟨M', ?_, FJ_tr f1 F, r, hv'⟩
    show BM_items_3 (LM_items_3 g) 1003 cl tg (nI o) (nI many) (nI k) M = some M'
    unfold BM_items_3
    rw [if_neg (of_eq_false (n_leF (by omega) (by omega))), hus M k (by omega), bs1n, l_1, n_add, n_add, ar_wr hT (show o + k < nT by omega), gd1n, n_cl (by omega)]
    exact k1
theorem it_S (lk : LOK l) (M : Mem) (b : Nat) : fM_itemOf (nI 115) (chL l b) M = some (oN ((l[b]?).bind (tix 0)), M) := by
  rcases Nat.lt_or_ge b l.length with hb | hb
  · have hc := lk.2 _ (List.getElem_mem hb)
    rw [chL_lt hb, List.getElem?_eq_getElem hb, bs1n]
    generalize l[b] = c at hc
    rw [tix_0 c (by omega)]
    by_cases h0 : c = 116
    · subst h0
      rfl
    · by_cases h1 : c = 112
      · subst h1
        rfl
      · by_cases h2 : c = 117
        · subst h2
          rfl
        · by_cases h3 : c = 98
          · subst h3
            rfl
          · by_cases h4 : c = 104
            · subst h4
              rfl
            · rw [if_neg h0, if_neg h1, if_neg h2, if_neg h3, if_neg h4]
              simp (disch := omega) only [fM_itemOf, BM_itemOf_69, gd1n, bs1n, ↓reduceIte, d_nz, d_nn, or_true, true_or, or_false, false_or, decide_true, Sum.elim_inl, Sum.elim_inr, ↓l_m1, l_0, l_1, l_2, l_3, l_4, l_5, l_6, l_7, l_8, l_9, l_10, l_16, l_17, l_18, l_20, l_23, l_24, l_30, l_31, l_32, l_39, l_40, l_41, l_48, l_57, l_58, l_59, l_60, l_63, l_90, l_97, l_98, l_99, l_100, l_102, l_103, l_104, l_107, l_109, l_112, l_115, l_116, l_117, l_120, l_122, l_126, l_166, l_180, l_240, l_255, l_640, l_999, l_2656, l_3064, l_3704, l_3708, l_3712, l_3713, l_3893, l_155720, l_1000000, n_ltT, n_ltF, n_leT, n_leF, n_eqT, n_eqF, n_eqm, n_eqm', n_mltn, n_mlen, n_nltm, n_nlem, n_mltm, n_mlem, n_add, n_mul, n_sub, n_subm, n_cl, n_ofNat, n_div, n_mod]
              rfl
  · rw [chL_ge hb, List.getElem?_eq_none hb]
    rfl
theorem it_C (lk : LOK l) (M : Mem) (b : Nat) : fM_itemOf (nI 99) (chL l b) M = some (oN ((l[b]?).bind (tix 1)), M) := by
  rcases Nat.lt_or_ge b l.length with hb | hb
  · have hc := lk.2 _ (List.getElem_mem hb)
    rw [chL_lt hb, List.getElem?_eq_getElem hb, bs1n]
    generalize l[b] = c at hc
    rw [tix_1 c (by omega)]
    by_cases h0 : c = 122
    · subst h0
      rfl
    · rw [if_neg h0]
      simp (disch := omega) only [fM_itemOf, BM_itemOf_17, gd1n, bs1n, ↓reduceIte, d_nz, d_nn, or_true, true_or, or_false, false_or, decide_true, Sum.elim_inl, Sum.elim_inr, ↓l_m1, l_0, l_1, l_2, l_3, l_4, l_5, l_6, l_7, l_8, l_9, l_10, l_16, l_17, l_18, l_20, l_23, l_24, l_30, l_31, l_32, l_39, l_40, l_41, l_48, l_57, l_58, l_59, l_60, l_63, l_90, l_97, l_98, l_99, l_100, l_102, l_103, l_104, l_107, l_109, l_112, l_115, l_116, l_117, l_120, l_122, l_126, l_166, l_180, l_240, l_255, l_640, l_999, l_2656, l_3064, l_3704, l_3708, l_3712, l_3713, l_3893, l_155720, l_1000000, n_ltT, n_ltF, n_leT, n_leF, n_eqT, n_eqF, n_eqm, n_eqm', n_mltn, n_mlen, n_nltm, n_nlem, n_mltm, n_mlem, n_add, n_mul, n_sub, n_subm, n_cl, n_ofNat, n_div, n_mod]
      rfl
  · rw [chL_ge hb, List.getElem?_eq_none hb]
    rfl
theorem tx_b {i c j many : Nat} (h : snM (7001 + i) = many) (e : tix i c = some j) : j < many := by
  have := lo_spec e
  omega
theorem hi_S (M : Mem) : ∀ j, j < 5 → fM_highest (nI 115) (nI j) M = some (nI (hiS j), M) := fun j hj => by
  rcases (show j = 0 ∨ j = 1 ∨ j = 2 ∨ j = 3 ∨ j = 4 by omega) with rfl | rfl | rfl | rfl | rfl <;> rfl
theorem us_S (M : Mem) : ∀ j, j < 5 → fM_usual (nI 115) (nI j) M = some (nI (usS j), M) := fun j hj => by
  rcases (show j = 0 ∨ j = 1 ∨ j = 2 ∨ j = 3 ∨ j = 4 by omega) with rfl | rfl | rfl | rfl | rfl <;> rfl
theorem mIt {i tg o nT many : Nat} {cl : Int32} {lo hi us : Nat → Nat} (lk : LOK l) (hit : ∀ M b, fM_itemOf cl (chL l b) M = some (oN ((l[b]?).bind (tix i)), M)) (htixb : ∀ c j, tix i c = some j → j < many) (hm15 : many = 1 ∨ many = 5) (hcl : (cl = nI 115 ∧ ∀ j, lo j = if j = 2 then 4 else 1) ∨ (cl = nI 99 ∧ ∀ j, lo j = 1)) (hhi : ∀ M j, j < many → fM_highest cl (nI j) M = some (nI (hi j), M)) (hus : ∀ M j, j < many → fM_usual cl (nI j) M = some (nI (us j), M)) (hb : ∀ j, j < many → lo j < 1000 ∧ hi j < 1000) (htg : tg ≠ 1003) (htg2 : tg ≠ 1004) (ho : o + many ≤ nT) (hnT : nT < 100) (H : MS M) (hT : arS M tg nT) (h : RdM M l a mI) (ha : a ≤ l.length) : ∃ M', fM_items 1003 cl tg (nI o) (nI many) M = some M' ∧ FJ tg o many M M' ∧ ((∃ p f', itL i lo hi l (many + 1) a 0 us = .inl (p, f') ∧ RdM M' l p mI ∧ p ≤ l.length ∧ ∀ j, j < many → giM M' tg (o + j) = nI (f' j)) ∨ (∃ p j, itL i lo hi l (many + 1) a 0 us = .inr (.inl p) ∧ p ≤ l.length ∧ RdM M' l p mI ∧ (l[p]?).bind (tix i) = some j) ∨ ∃ e p', itL i lo hi l (many + 1) a 0 us = .inr (.inr e) ∧ e ≤ 240 ∧ RdM M' l p' (nI e)) := by
  obtain ⟨M1, k1, F1, r1, v1⟩ := us_loop (us := us) hus htg htg2 ho hnT many 0 1000000 M a (by omega) (by omega) hT h (fun j hj => by omega)
  have H1 : MS M1 := MS_2 F1.1 H
  obtain ⟨M2, k2, F2, r2⟩ := ah_ok lk H1 r1 ha
  have H2 : MS M2 := MS_2 F2.1 H1
  have f2 : FJ tg o many M M2 := FJ_tr F1 (FJ_RP htg F2)
  obtain ⟨M3, k3, F3, hh⟩ := itm_loop (i := i) (lo := lo) (hi := hi) lk hit htixb hm15 hcl hhi hb htg htg2 ho hnT many 1000000 M2 a 0 us (by show 0 + many = many; omega) (Nat.pow_pos (by omega)) (by omega) H2 (arS_2 f2.1 hT) r2 ha (fun j hj => by rw [F2.2.1 tg htg]; exact v1 j hj)
  refine ⟨M3, ?_, FJ_tr f2 F3, hh⟩
  have k1 : LM_items_3 1000000 1003 cl tg (nI o) (nI many) 0 M = some M1 := k1
  have k3 : LM_items_41 1000000 1003 cl tg (nI o) 0 (oN ((l[skp l a]?).bind (tix i))) M2 = some M3 := k3
  unfold fM_items
  rw [k1, bs1n, ms_ob H1, gd1n, k2, bs1n, hit, bs1n, k3, bs1n]
  rfl
end IC2
