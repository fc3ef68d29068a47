/-! READING: the items of a clause, the reference -/
section IM2
variable {M M1 M2 N : Mem} {l : List Nat} {a : Nat} {w : Int32}
def FJ (tg o many : Nat) (M M' : Mem) : Prop := M'.2 = M.2 ∧ (∀ x, x ≠ 1003 → x ≠ tg → giM M' x = giM M x) ∧ (∀ k, k ≠ 3 → k ≠ 4 → giM M' 1003 k = giM M 1003 k) ∧ ∀ k, k < o ∨ o + many ≤ k → giM M' tg k = giM M tg k
theorem FJ_refl (tg o many : Nat) (M : Mem) : FJ tg o many M M := ⟨rfl, fun _ _ _ => rfl, fun _ _ _ => rfl, fun _ _ => rfl⟩
theorem FJ_tr {tg o many : Nat} (h : FJ tg o many M M1) (g : FJ tg o many M1 M2) : FJ tg o many M M2 := ⟨g.1.trans h.1, fun x h1 h2 => (g.2.1 x h1 h2).trans (h.2.1 x h1 h2), fun k h1 h2 => (g.2.2.1 k h1 h2).trans (h.2.2.1 k h1 h2), fun k hk => (g.2.2.2 k hk).trans (h.2.2.2 k hk)⟩
theorem FJ_RP {tg o many : Nat} (h : tg ≠ 1003) (F : RP M M1) : FJ tg o many M M1 := ⟨F.1, fun x h1 _ => F.2.1 x h1, F.2.2, fun k _ => by rw [F.2.1 tg h]⟩
theorem FJ_si {tg o many j : Nat} {z : Int32} (h : tg ≠ 1003) (h1 : o ≤ j) (h2 : j < o + many) : FJ tg o many M (siM M tg j z) := ⟨rfl, fun x _ h => giM_un h, fun k _ _ => by rw [giM_un (fun e => h e.symm)], fun k hk => by rw [giM_ud, ud_n _ _ (by omega)]⟩
theorem RdM_si {tg j : Nat} {z : Int32} {b : Nat} (h : RdM M l b w) (h1 : tg ≠ 1003) (h2 : tg ≠ 1004) : RdM (siM M tg j z) l b w := ⟨TPm_cg h.1 (by rw [giM_un (fun e => h1 e.symm)]) (giM_un (fun e => h2 e.symm)), by rw [giM_un (fun e => h1 e.symm)]; exact h.2.1, by rw [giM_un (fun e => h1 e.symm)]; exact h.2.2⟩
theorem has_ok {m j : Nat} (hm : m < 32) (hj : j < 5) : fM_has (nI m) (nI j) M = some (nI (if m.testBit j then 1 else 0), M) := by
  have b := (bt_h m hm j hj).1
  cases h : m.testBit j with
  | true =>
    rw [h, if_pos rfl] at b
    rw [if_pos rfl]
    simp (disch := omega) only [fM_has, BM_has_14, gd1n, bs1n, ↓reduceIte, d_nz, d_nn, or_true, true_or, or_false, false_or, decide_true, Sum.elim_inl, Sum.elim_inr, ↓l_m1, l_0, l_1, l_2, l_3, l_4, l_5, l_6, l_7, l_8, l_9, l_10, l_16, l_17, l_18, l_20, l_23, l_24, l_30, l_31, l_32, l_39, l_40, l_41, l_48, l_57, l_58, l_59, l_60, l_63, l_90, l_97, l_98, l_99, l_100, l_102, l_103, l_104, l_107, l_109, l_112, l_115, l_116, l_117, l_120, l_122, l_126, l_166, l_180, l_240, l_255, l_640, l_999, l_2656, l_3064, l_3704, l_3708, l_3712, l_3713, l_3893, l_155720, l_1000000, n_ltT, n_ltF, n_leT, n_leF, n_eqT, n_eqF, n_eqm, n_eqm', n_mltn, n_mlen, n_nltm, n_nlem, n_mltm, n_mlem, n_add, n_mul, n_sub, n_subm, n_cl, n_ofNat, n_div, n_mod, b]
  | false =>
    rw [h, if_neg (by decide)] at b
    rw [if_neg (by decide)]
    simp (disch := omega) only [fM_has, BM_has_14, gd1n, bs1n, ↓reduceIte, d_nz, d_nn, or_true, true_or, or_false, false_or, decide_true, Sum.elim_inl, Sum.elim_inr, ↓l_m1, l_0, l_1, l_2, l_3, l_4, l_5, l_6, l_7, l_8, l_9, l_10, l_16, l_17, l_18, l_20, l_23, l_24, l_30, l_31, l_32, l_39, l_40, l_41, l_48, l_57, l_58, l_59, l_60, l_63, l_90, l_97, l_98, l_99, l_100, l_102, l_103, l_104, l_107, l_109, l_112, l_115, l_116, l_117, l_120, l_122, l_126, l_166, l_180, l_240, l_255, l_640, l_999, l_2656, l_3064, l_3704, l_3708, l_3712, l_3713, l_3893, l_155720, l_1000000, n_ltT, n_ltF, n_leT, n_leF, n_eqT, n_eqF, n_eqm, n_eqm', n_mltn, n_mlen, n_nltm, n_nlem, n_mltm, n_mlem, n_add, n_mul, n_sub, n_subm, n_cl, n_ofNat, n_div, n_mod, b]
theorem mi41 {K : Nat → Int32 → Nat → Int32 → Int32 → Int32 → Mem → Option Mem} {cl : Int32} {tg o m j lo b : Nat} (H : MS M) (h : RdM M l b mI) (hm : m < 32) (hj : j < 5) (hbit : m.testBit j = false) (ho : o < 1000) (hb : b < 1000) (hcl : (cl = nI 115 ∧ lo = if j = 2 then 4 else 1) ∨ (cl = nI 99 ∧ lo = 1)) : BM_items_41 K 1003 cl tg (nI o) (nI m) (nI j) M = BM_items_107 K 1003 cl tg (nI o) (nI (m ||| 2 ^ j)) (nI j) tg (nI (o + j)) 1003 (nI lo) (siM M 1003 3 (nI (b + 1))) := by
  have t3 := h.2.1
  have t4 := h.2.2
  have hh := has_ok (M := M) hm hj
  rw [hbit, if_neg (by decide)] at hh
  have b2 := (bt_h m hm j hj).2.1
  generalize m ||| 2 ^ j = m2 at b2
  rcases hcl with ⟨rfl, e⟩ | ⟨rfl, e⟩
  · by_cases h2 : j = 2
    · rw [if_pos h2] at e
      subst h2 e
      simp (disch := omega) only [BM_items_41, BM_items_106, gd1n, bs1n, ↓reduceIte, d_nz, d_nn, or_true, true_or, or_false, false_or, decide_true, Sum.elim_inl, Sum.elim_inr, ↓l_m1, l_0, l_1, l_2, l_3, l_4, l_5, l_6, l_7, l_8, l_9, l_10, l_16, l_17, l_18, l_20, l_23, l_24, l_30, l_31, l_32, l_39, l_40, l_41, l_48, l_57, l_58, l_59, l_60, l_63, l_90, l_97, l_98, l_99, l_100, l_102, l_103, l_104, l_107, l_109, l_112, l_115, l_116, l_117, l_120, l_122, l_126, l_166, l_180, l_240, l_255, l_640, l_999, l_2656, l_3064, l_3704, l_3708, l_3712, l_3713, l_3893, l_155720, l_1000000, n_ltT, n_ltF, n_leT, n_leF, n_eqT, n_eqF, n_eqm, n_eqm', n_mltn, n_mlen, n_nltm, n_nlem, n_mltm, n_mlem, n_add, n_mul, n_sub, n_subm, n_cl, n_ofNat, n_div, n_mod, ms_ob H, t3, t4, hh, b2]
    · rw [if_neg h2] at e
      subst e
      simp (disch := omega) only [BM_items_41, BM_items_106, gd1n, bs1n, ↓reduceIte, d_nz, d_nn, or_true, true_or, or_false, false_or, decide_true, Sum.elim_inl, Sum.elim_inr, ↓l_m1, l_0, l_1, l_2, l_3, l_4, l_5, l_6, l_7, l_8, l_9, l_10, l_16, l_17, l_18, l_20, l_23, l_24, l_30, l_31, l_32, l_39, l_40, l_41, l_48, l_57, l_58, l_59, l_60, l_63, l_90, l_97, l_98, l_99, l_100, l_102, l_103, l_104, l_107, l_109, l_112, l_115, l_116, l_117, l_120, l_122, l_126, l_166, l_180, l_240, l_255, l_640, l_999, l_2656, l_3064, l_3704, l_3708, l_3712, l_3713, l_3893, l_155720, l_1000000, n_ltT, n_ltF, n_leT, n_leF, n_eqT, n_eqF, n_eqm, n_eqm', n_mltn, n_mlen, n_nltm, n_nlem, n_mltm, n_mlem, n_add, n_mul, n_sub, n_subm, n_cl, n_ofNat, n_div, n_mod, ms_ob H, t3, t4, hh, b2]
  · subst e
    simp (disch := omega) only [BM_items_41, BM_items_106, gd1n, bs1n, ↓reduceIte, d_nz, d_nn, or_true, true_or, or_false, false_or, decide_true, Sum.elim_inl, Sum.elim_inr, ↓l_m1, l_0, l_1, l_2, l_3, l_4, l_5, l_6, l_7, l_8, l_9, l_10, l_16, l_17, l_18, l_20, l_23, l_24, l_30, l_31, l_32, l_39, l_40, l_41, l_48, l_57, l_58, l_59, l_60, l_63, l_90, l_97, l_98, l_99, l_100, l_102, l_103, l_104, l_107, l_109, l_112, l_115, l_116, l_117, l_120, l_122, l_126, l_166, l_180, l_240, l_255, l_640, l_999, l_2656, l_3064, l_3704, l_3708, l_3712, l_3713, l_3893, l_155720, l_1000000, n_ltT, n_ltF, n_leT, n_leF, n_eqT, n_eqF, n_eqm, n_eqm', n_mltn, n_mlen, n_nltm, n_nlem, n_mltm, n_mlem, n_add, n_mul, n_sub, n_subm, n_cl, n_ofNat, n_div, n_mod, ms_ob H, t3, t4, hh, b2]
theorem itm_loop {i tg o nT many : Nat} {cl : Int32} {lo hi : Nat → Nat} (lk : LOK l) (hit : ∀ M b, fM_itemOf cl (chL l b) M = some (oN ((l[b]?).bind (tix i)), M)) (htixb : ∀ c j, tix i c = some j → j < many) (hm15 : many = 1 ∨ many = 5) (hcl : (cl = nI 115 ∧ ∀ j, lo j = if j = 2 then 4 else 1) ∨ (cl = nI 99 ∧ ∀ j, lo j = 1)) (hhi : ∀ M j, j < many → fM_highest cl (nI j) M = some (nI (hi j), M)) (hb : ∀ j, j < many → lo j < 1000 ∧ hi j < 1000) (htg : tg ≠ 1003) (htg2 : tg ≠ 1004) (ho : o + many ≤ nT) (hnT : nT < 100) : ∀ n f M a m fv, pcN m + n = many → m < 2 ^ many → n + 1 < f → MS M → arS M tg nT → RdM M l (skp l a) mI → a ≤ l.length → (∀ j, j < many → giM M tg (o + j) = nI (fv j)) → ∃ M', LM_items_41 f 1003 cl tg (nI o) (nI m) (oN ((l[skp l a]?).bind (tix i))) M = some M' ∧ FJ tg o many M M' ∧ ((∃ p f', itL i lo hi l (n + 1) a m fv = .inl (p, f') ∧ RdM M' l p mI ∧ p ≤ l.length ∧ ∀ j, j < many → giM M' tg (o + j) = nI (f' j)) ∨ (∃ p j, itL i lo hi l (n + 1) a m fv = .inr (.inl p) ∧ p ≤ l.length ∧ RdM M' l p mI ∧ (l[p]?).bind (tix i) = some j) ∨ ∃ e p', itL i lo hi l (n + 1) a m fv = .inr (.inr e) ∧ e ≤ 240 ∧ RdM M' l p' (nI e)) := by
  have ll := lk.1
  have hmb : many ≤ 5 := by omega
  intro n
  induction n using Nat.strongRecOn with
  | ind n IH =>
    intro f M a m fv hpc hm hf H hT h ha hv
    obtain ⟨g, rfl⟩ : ∃ g, f = g + 1 := ⟨f - 1, by omega⟩
    have hm32 : m < 32 := by
      have : 2 ^ many ≤ 2 ^ 5 := Nat.pow_le_pow_right (by omega) hmb
      omega
    have i1 := skp_le (l := l) ha
    have t4 := h.2.2
    have hI := itL_s i lo hi l n a m fv
    show ∃ M', BM_items_41 (LM_items_41 g) 1003 cl tg (nI o) (nI m) (oN ((l[skp l a]?).bind (tix i))) M = some M' ∧ _
    generalize itL i lo hi l (n + 1) a m fv = R at hI
    generalize skp l a = b at h i1 hI
    cases hx : (l[b]?).bind (tix i) with
    | none =>
      rw [hx] at hI
      refine ⟨M, ?_, FJ_refl _ _ _ _, Or.inl ⟨b, fv, hI, h, i1, hv⟩⟩
      show BM_items_41 (LM_items_41 g) 1003 cl tg (nI o) (nI m) mI M = some M
      unfold BM_items_41
      rw [ms_ob H, gd1n, t4, if_pos (show mI = -1 from rfl), if_pos (show mI = -1 from rfl)]
    | some j =>
      rw [hx] at hI
      have hI : R = if m.testBit j = true then .inr (.inl b) else match nmF l (b + 1) (lo j) (hi j) with
        | .inl (x, p) => itL i lo hi l n p (m ||| 2 ^ j) (ud fv j x)
        | .inr e => .inr (.inr e) := hI
      have hbl : b < l.length := by
        rcases Nat.lt_or_ge b l.length with h1 | h1
        · exact h1
        · rw [List.getElem?_eq_none h1] at hx
          cases hx
      have hj : j < many := by
        rw [List.getElem?_eq_getElem hbl, bs1n] at hx
        exact htixb _ _ hx
      obtain ⟨b1, b2, b3, b4, b5⟩ := bt_h m hm32 j (by omega)
      show ∃ M', BM_items_41 (LM_items_41 g) 1003 cl tg (nI o) (nI m) (nI j) M = some M' ∧ _
      cases hbit : m.testBit j with
      | true =>
        have hh := has_ok (M := M) hm32 (show j < 5 by omega)
        rw [hbit, if_pos rfl] at hh
        refine ⟨M, ?_, FJ_refl _ _ _ _, Or.inr (Or.inl ⟨b, j, by rw [hI, if_pos hbit], i1, h, hx⟩)⟩
        unfold BM_items_41
        rw [ms_ob H, gd1n, t4, if_pos (show mI = -1 from rfl), if_neg (show ¬ nI j = -1 from of_eq_false (n_eqm (by omega))), hh, bs1n, if_neg (show ¬ nI 1 = 0 by decide)]
      | false =>
        have e41 := mi41 (K := LM_items_41 g) (cl := cl) (tg := tg) (lo := lo j) H h hm32 (show j < 5 by omega) hbit (show o < 1000 by omega) (show b < 1000 by omega) (by
          rcases hcl with ⟨c1, c2⟩ | ⟨c1, c2⟩
          · exact Or.inl ⟨c1, c2 j⟩
          · exact Or.inr ⟨c1, c2 j⟩)
        rw [e41]
        have r2 := RdM_1 h (b + 1)
        have H2 : MS (siM M 1003 3 (nI (b + 1))) := MS_2 rfl H
        have f2 : FJ tg o many M (siM M 1003 3 (nI (b + 1))) := FJ_RP htg (RP_3 _)
        have v2 : ∀ j, j < many → giM (siM M 1003 3 (nI (b + 1))) tg (o + j) = nI (fv j) := fun j hj => by rw [giM_un htg]; exact hv j hj
        generalize siM M 1003 3 (nI (b + 1)) = M2 at r2 H2 f2 v2
        obtain ⟨v, M3, k3, F3, hh⟩ := num_m (lo := lo j) (hi := hi j) lk H2 r2 (by omega) (hb j hj).1 (hb j hj).2
        have H3 : MS M3 := MS_2 F3.1 H2
        have f3 : FJ tg o many M M3 := FJ_tr f2 (FJ_RP htg F3)
        have hT3 := arS_2 f3.1 hT
        have w3 := ar_wr hT3 (show o + j < nT by omega)
        have v3 : ∀ j, j < many → giM M3 tg (o + j) = nI (fv j) := fun j hj => by rw [F3.2.1 tg htg]; exact v2 j hj
        have f4 : FJ tg o many M (siM M3 tg (o + j) v) := FJ_tr f3 (FJ_si htg (by omega) (by omega))
        have H4 : MS (siM M3 tg (o + j) v) := MS_2 rfl H3
        have hjo : (nI (o + j)).toNatClampNeg = o + j := n_cl (by omega)
        rcases hh with ⟨x, p, n1, n2, n3, n4⟩ | ⟨e, p, n1, n3, n4, n5⟩
        · have r4 : RdM (siM M3 tg (o + j) v) l p mI := RdM_si n3 htg htg2
          have v4 : ∀ j', j' < many → giM (siM M3 tg (o + j) v) tg (o + j') = nI (ud fv j x j') := fun j' hj' => by
            rw [giM_ud, ud_at, ud_at]
            by_cases ej : j' = j
            · rw [if_pos (by omega), if_pos ej, n2]
            · rw [if_neg (by omega), if_neg ej]
              exact v3 j' hj'
          generalize hM4 : siM M3 tg (o + j) v = M4 at f4 H4 r4 v4
          have w4 := r4.2.2
          obtain ⟨M5, k5, F5, r5⟩ := ah_ok lk H4 r4 n4
          have H5 : MS M5 := MS_2 F5.1 H4
          have f5 : FJ tg o many M M5 := FJ_tr f4 (FJ_RP htg F5)
          have hn : 0 < n := by
            rcases Nat.eq_zero_or_pos n with e0 | hn
            · exfalso
              have : m.testBit j = true := by
                rcases hm15 with e | e
                · have hj0 : j = 0 := by omega
                  rw [hj0]
                  exact (bt_1 m (by rw [e] at hm; exact hm)).2 (by omega)
                · exact b5 (by omega)
              rw [hbit] at this
              cases this
            · exact hn
          obtain ⟨n', rfl⟩ : ∃ n', n = n' + 1 := ⟨n - 1, by omega⟩
          have hI : R = itL i lo hi l (n' + 1) p (m ||| 2 ^ j) (ud fv j x) := by rw [hI, if_neg (by rw [hbit]; decide), n1]
          obtain ⟨M6, k6, F6, hh⟩ := IH n' (by omega) g M5 p (m ||| 2 ^ j) (ud fv j x) (by have := b4 hbit; omega) (by
            rcases hm15 with e | e
            · have hj0 : j = 0 := by omega
              rw [e] at hm ⊢
              rw [hj0]
              exact (bt_1 m hm).1
            · rw [e]
              exact b3) (by omega) H5 (arS_2 f5.1 hT) r5 n4 (fun j' hj' => by rw [F5.2.1 tg htg]; exact v4 j' hj')
          refine ⟨M6, ?_, FJ_tr f5 F6, ?_⟩
          · unfold BM_items_107
            rw [hhi M2 j hj, bs1n, ms_ob H2, gd1n, k3, bs1n, w3, gd1n, ms_ob H3, gd1n, hjo, hM4, w4, if_pos (show mI = -1 from rfl), k5, bs1n, hit, bs1n]
            exact k6
          · rw [hI]
            exact hh
        · have r4 : RdM (siM M3 tg (o + j) v) l p (nI e) := RdM_si n3 htg htg2
          generalize hM4 : siM M3 tg (o + j) v = M4 at f4 H4 r4
          have w4 := r4.2.2
          obtain ⟨g, rfl⟩ : ∃ g', g = g' + 1 := ⟨g - 1, by omega⟩
          have hne : ¬ nI e = -1 := of_eq_false (n_eqm (by omega))
          refine ⟨M4, ?_, f4, Or.inr (Or.inr ⟨e, p, ?_, n5, r4⟩)⟩
          · unfold BM_items_107
            rw [hhi M2 j hj, bs1n, ms_ob H2, gd1n, k3, bs1n, w3, gd1n, ms_ob H3, gd1n, hjo, hM4, w4, if_neg hne]
            show BM_items_41 (LM_items_41 g) 1003 cl tg (nI o) (nI (m ||| 2 ^ j)) (-1) M4 = some M4
            unfold BM_items_41
            rw [ms_ob H4, gd1n, w4, if_neg hne]
          · rw [hI, if_neg (by rw [hbit]; decide), n1]
end IM2
