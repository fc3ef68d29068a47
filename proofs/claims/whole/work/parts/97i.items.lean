/-! READING: the items of a clause, the reference -/
section IM2
variable {M M1 M2 N : Mem} {l : List Nat} {a : Nat} {w : Int32}
def FJ (tg o many : Nat) (M M' : Mem) : Prop := M'.2 = M.2 ∧ (∀ x, x ≠ 1003 → x ≠ tg → giM M' x = giM M x) ∧ (∀ k, k ≠ 3 → k ≠ 4 → giM M' 1003 k = giM M 1003 k) ∧ ∀ k, k < o ∨ o + many ≤ k → giM M' tg k = giM M tg k
theorem FJ_refl (tg o many : Nat) (M : Mem) : FJ tg o many M M := ⟨rfl, fun _ _ _ => rfl, fun _ _ _ => rfl, fun _ _ => rfl⟩
theorem FJ_tr {tg o many : Nat} (h : FJ tg o many M M1) (g : FJ tg o many M1 M2) : FJ tg o many M M2 := ⟨g.1.trans h.1, fun x h1 h2 => (g.2.1 x h1 h2).trans (h.2.1 x h1 h2), fun k h1 h2 => (g.2.2.1 k h1 h2).trans (h.2.2.1 k h1 h2), fun k hk => (g.2.2.2 k hk).trans (h.2.2.2 k hk)⟩
theorem FJ_RP {tg o many : Nat} (h : tg ≠ 1003) (F : RP M M1) : FJ tg o many M M1 := ⟨F.1, fun x h1 _ => F.2.1 x h1, F.2.2, fun k _ => by rw [F.2.1 tg h]⟩
theorem FJ_si {tg o many j : Nat} {z : Int32} (h : tg ≠ 1003) (h1 : o ≤ j) (h2 : j < o + many) : FJ tg o many M (siM M tg j z) := ⟨rfl, fun x _ h => giM_un h, fun k _ _ => by rw [giM_un (fun e => h e.symm)], fun k hk => by rw [giM_ud, ud_n _ _ (by omega)]⟩
theorem RdM_si {tg j : Nat} {z : Int32} {b : Nat} (h : RdM M l b w) (h1 : tg ≠ 1003) (h2 : tg ≠ 1004) : RdM (siM M tg j z) l b w := ⟨TPm_cg h.1 (by rw [giM_un (fun e => h1 e.symm)]) (giM_un (fun e => h2 e.symm)), by rw [giM_un (fun e => h1 e.symm)]; exact h.2.1, by rw [giM_un (fun e => h1 e.symm)]; exact h.2.2⟩
theorem has_ok {m j : Nat} (hm : m < 32) (hj : j < 5) : fM_has (nI m) (nI j) M = some (nI (if m.testBit j then 1 else 0), M) := by
  have b := (bt_h m hm j hj).1
  cases h : m.testBit j with
  | true =>
    rw [h, if_pos rfl] at b
    rw [if_pos rfl]
    simp (disch := omega) only [fM_has, BM_has_14, gd1n, bs1n, ↓reduceIte, d_nz, d_nn, or_true, true_or, or_false, false_or, decide_true, Sum.elim_inl, Sum.elim_inr, ↓l_m1, l_0, l_1, l_2, l_3, l_4, l_5, l_6, l_7, l_8, l_9, l_10, l_16, l_17, l_18, l_20, l_23, l_24, l_30, l_31, l_32, l_39, l_40, l_41, l_48, l_57, l_58, l_59, l_60, l_63, l_90, l_97, l_98, l_99, l_100, l_102, l_103, l_104, l_107, l_109, l_112, l_115, l_116, l_117, l_120, l_122, l_126, l_166, l_180, l_240, l_255, l_640, l_999, l_2656, l_3064, l_3704, l_3708, l_3712, l_3713, l_3893, l_155720, l_1000000, n_ltT, n_ltF, n_leT, n_leF, n_eqT, n_eqF, n_eqm, n_eqm', n_mltn, n_mlen, n_nltm, n_nlem, n_mltm, n_mlem, n_add, n_mul, n_sub, n_subm, n_cl, n_ofNat, n_div, n_mod, b]
  | false =>
    rw [h, if_neg (by decide)] at b
    rw [if_neg (by decide)]
    simp (disch := omega) only [fM_has, BM_has_14, gd1n, bs1n, ↓reduceIte, d_nz, d_nn, or_true, true_or, or_false, false_or, decide_true, Sum.elim_inl, Sum.elim_inr, ↓l_m1, l_0, l_1, l_2, l_3, l_4, l_5, l_6, l_7, l_8, l_9, l_10, l_16, l_17, l_18, l_20, l_23, l_24, l_30, l_31, l_32, l_39, l_40, l_41, l_48, l_57, l_58, l_59, l_60, l_63, l_90, l_97, l_98, l_99, l_100, l_102, l_103, l_104, l_107, l_109, l_112, l_115, l_116, l_117, l_120, l_122, l_126, l_166, l_180, l_240, l_255, l_640, l_999, l_2656, l_3064, l_3704, l_3708, l_3712, l_3713, l_3893, l_155720, l_1000000, n_ltT, n_ltF, n_leT, n_leF, n_eqT, n_eqF, n_eqm, n_eqm', n_mltn, n_mlen, n_nltm, n_nlem, n_mltm, n_mlem, n_add, n_mul, n_sub, n_subm, n_cl, n_ofNat, n_div, n_mod, b]
theorem mi41 {K : Nat → Int32 → Nat → Int32 → Int32 → Int32 → Mem → Option Mem} {cl : Int32} {tg o m j lo b : Nat} (H : MS M) (h : RdM M l b mI) (hm : m < 32) (hj : j < 5) (hbit : m.testBit j = false) (ho : o < 1000) (hb : b < 1000) (hcl : (cl = nI 115 ∧ lo = if j = 2 then 4 else 1) ∨ (cl = nI 99 ∧ lo = 1)) : BM_items_41 K 1003 cl tg (nI o) (nI m) (nI j) M = BM_items_107 K 1003 cl tg (nI o) (nI (m ||| 2 ^ j)) (nI j) tg (nI (o + j)) 1003 (nI lo) (siM M 1003 3 (nI (b + 1))) := by
  have t3 := h.2.1
  have t4 := h.2.2
  have hh := has_ok (M := M) hm hj
  rw [hbit, if_neg (by decide)] at hh
  have b2 := (bt_h m hm j hj).2.1
  generalize m ||| 2 ^ j = m2 at b2
  rcases hcl with ⟨rfl, e⟩ | ⟨rfl, e⟩
  · by_cases h2 : j = 2
    · rw [if_pos h2] at e
      subst h2 e
      simp (disch := omega) only [BM_items_41, BM_items_106, gd1n, bs1n, ↓reduceIte, d_nz, d_nn, or_true, true_or, or_false, false_or, decide_true, Sum.elim_inl, Sum.elim_inr, ↓l_m1, l_0, l_1, l_2, l_3, l_4, l_5, l_6, l_7, l_8, l_9, l_10, l_16, l_17, l_18, l_20, l_23, l_24, l_30, l_31, l_32, l_39, l_40, l_41, l_48, l_57, l_58, l_59, l_60, l_63, l_90, l_97, l_98, l_99, l_100, l_102, l_103, l_104, l_107, l_109, l_112, l_115, l_116, l_117, l_120, l_122, l_126, l_166, l_180, l_240, l_255, l_640, l_999, l_2656, l_3064, l_3704, l_3708, l_3712, l_3713, l_3893, l_155720, l_1000000, n_ltT, n_ltF, n_leT, n_leF, n_eqT, n_eqF, n_eqm, n_eqm', n_mltn, n_mlen, n_nltm, n_nlem, n_mltm, n_mlem, n_add, n_mul, n_sub, n_subm, n_cl, n_ofNat, n_div, n_mod, ms_ob H, t3, t4, hh, b2]
    · rw [if_neg h2] at e
      subst e
      simp (disch := omega) only [BM_items_41, BM_items_106, gd1n, bs1n, ↓reduceIte, d_nz, d_nn, or_true, true_or, or_false, false_or, decide_true, Sum.elim_inl, Sum.elim_inr, ↓l_m1, l_0, l_1, l_2, l_3, l_4, l_5, l_6, l_7, l_8, l_9, l_10, l_16, l_17, l_18, l_20, l_23, l_24, l_30, l_31, l_32, l_39, l_40, l_41, l_48, l_57, l_58, l_59, l_60, l_63, l_90, l_97, l_98, l_99, l_100, l_102, l_103, l_104, l_107, l_109, l_112, l_115, l_116, l_117, l_120, l_122, l_126, l_166, l_180, l_240, l_255, l_640, l_999, l_2656, l_3064, l_3704, l_3708, l_3712, l_3713, l_3893, l_155720, l_1000000, n_ltT, n_ltF, n_leT, n_leF, n_eqT, n_eqF, n_eqm, n_eqm', n_mltn, n_mlen, n_nltm, n_nlem, n_mltm, n_mlem, n_add, n_mul, n_sub, n_subm, n_cl, n_ofNat, n_div, n_mod, ms_ob H, t3, t4, hh, b2]
  · subst e
    simp (disch := omega) only [BM_items_41, BM_items_106, gd1n, bs1n, ↓reduceIte, d_nz, d_nn, or_true, true_or, or_false, false_or, decide_true, Sum.elim_inl, Sum.elim_inr, ↓l_m1, l_0, l_1, l_2, l_3, l_4, l_5, l_6, l_7, l_8, l_9, l_10, l_16, l_17, l_18, l_20, l_23, l_24, l_30, l_31, l_32, l_39, l_40, l_41, l_48, l_57, l_58, l_59, l_60, l_63, l_90, l_97, l_98, l_99, l_100, l_102, l_103, l_104, l_107, l_109, l_112, l_115, l_116, l_117, l_120, l_122, l_126, l_166, l_180, l_240, l_255, l_640, l_999, l_2656, l_3064, l_3704, l_3708, l_3712, l_3713, l_3893, l_155720, l_1000000, n_ltT, n_ltF, n_leT, n_leF, n_eqT, n_eqF, n_eqm, n_eqm', n_mltn, n_mlen, n_nltm, n_nlem, n_mltm, n_mlem, n_add, n_mul, n_sub, n_subm, n_cl, n_ofNat, n_div, n_mod, ms_ob H, t3, t4, hh, b2]
end IM2
