/-! READING: a step of a script, the reference -/
section MT
variable {M M1 M2 : Mem} {l : List Nat} {a p o s w : Nat}
def FSm (o : Nat) (M M' : Mem) : Prop := M'.2 = M.2 ∧ (∀ x, x ≠ 1003 → x ≠ 1009 → giM M' x = giM M x) ∧ (∀ k, k ≠ 3 → k ≠ 4 → k ≠ 14 → giM M' 1003 k = giM M 1003 k) ∧ ∀ j, j < o ∨ o + 2 < j → giM M' 1009 j = giM M 1009 j
theorem FSm_refl (o : Nat) (M : Mem) : FSm o M M := ⟨rfl, fun _ _ _ => rfl, fun _ _ _ _ => rfl, fun _ _ => rfl⟩
theorem FSm_tr (h : FSm o M M1) (g : FSm o M1 M2) : FSm o M M2 := ⟨g.1.trans h.1, fun x h1 h2 => (g.2.1 x h1 h2).trans (h.2.1 x h1 h2), fun k h1 h2 h3 => (g.2.2.1 k h1 h2 h3).trans (h.2.2.1 k h1 h2 h3), fun j hj => (g.2.2.2 j hj).trans (h.2.2.2 j hj)⟩
theorem FSm_RP (F : RP M M1) : FSm o M M1 := ⟨F.1, fun x h1 _ => F.2.1 x h1, fun k h1 h2 _ => F.2.2 k h1 h2, fun j _ => by rw [F.2.1 1009 (by omega)]⟩
theorem FSm_14 (z : Int32) : FSm o M (siM M 1003 14 z) := ⟨rfl, fun x h1 _ => giM_un h1, fun k _ _ h => by rw [giM_ud, ud_n _ _ h], fun j _ => by rw [giM_un (by omega)]⟩
theorem FSm_9 {j : Nat} (z : Int32) (h1 : o ≤ j) (h2 : j ≤ o + 2) : FSm o M (siM M 1009 j z) := ⟨rfl, fun x _ h => giM_un h, fun k _ _ _ => by rw [giM_un (by omega)], fun k hk => by rw [giM_ud, ud_n _ _ (by omega)]⟩
def STm (M : Mem) (o : Nat) (t : StT) : Prop := giM M 1009 o = nI t.1 ∧ giM M 1009 (o + 1) = dB t ∧ giM M 1009 (o + 2) = dN t
def SPOm (l : List Nat) (o s : Nat) (x : (Nat × StT) ⊕ Nat) (M' : Mem) : Prop := match x with
  | .inl (p, t) => RdM M' l p mI ∧ p ≤ l.length ∧ STm M' o t ∧ giM M' 1003 14 = nI (scp t.1 s)
  | .inr e => e ≤ 240 ∧ ∃ p', RdM M' l p' (nI e)
theorem so_ok (lk : LOK l) (M : Mem) (b : Nat) : fM_sortOf (chL l b) M = some (oN ((l[b]?).bind (tix 2)), M) := by
  rcases Nat.lt_or_ge b l.length with hb | hb
  · have hc := lk.2 _ (List.getElem_mem hb)
    rw [chL_lt hb, List.getElem?_eq_getElem hb, bs1n]
    generalize l[b] = c at hc
    rw [tix_2 c (by omega)]
    by_cases h0 : c = 103
    · subst h0; rfl
    · by_cases h1 : c = 102
      · subst h1; rfl
      · by_cases h2 : c = 120
        · subst h2; rfl
        · by_cases h3 : c = 107
          · subst h3; rfl
          · by_cases h4 : c = 109
            · subst h4; rfl
            · by_cases h5 : c = 40
              · subst h5; rfl
              · by_cases h6 : c = 41
                · subst h6; rfl
                · rw [if_neg h0, if_neg h1, if_neg h2, if_neg h3, if_neg h4, if_neg h5, if_neg h6]
                  simp (disch := omega) only [fM_sortOf, gd1n, bs1n, ↓reduceIte, d_nz, d_nn, or_true, true_or, or_false, false_or, decide_true, Sum.elim_inl, Sum.elim_inr, ↓l_m1, l_0, l_1, l_2, l_3, l_4, l_5, l_6, l_7, l_8, l_9, l_10, l_16, l_17, l_18, l_20, l_23, l_24, l_30, l_31, l_32, l_39, l_40, l_41, l_48, l_57, l_58, l_59, l_60, l_63, l_90, l_97, l_98, l_99, l_100, l_102, l_103, l_104, l_107, l_109, l_112, l_115, l_116, l_117, l_120, l_122, l_126, l_166, l_180, l_240, l_255, l_640, l_999, l_2656, l_3064, l_3704, l_3708, l_3712, l_3713, l_3893, l_155720, l_1000000, n_ltT, n_ltF, n_leT, n_leF, n_eqT, n_eqF, n_eqm, n_eqm', n_mltn, n_mlen, n_nltm, n_nlem, n_mltm, n_mlem, n_add, n_mul, n_sub, n_subm, n_cl, n_ofNat, n_div, n_mod]
                  rfl
  · rw [chL_ge hb, List.getElem?_eq_none hb]
    rfl
theorem RdM_14 {b : Nat} {v z : Int32} (h : RdM M l b v) : RdM (siM M 1003 14 z) l b v := ⟨TPm_cg h.1 (by rw [giM_ud, ud_n _ _ (by omega)]) (giM_un (by omega)), by rw [giM_ud, ud_n _ _ (by omega)]; exact h.2.1, by rw [giM_ud, ud_n _ _ (by omega)]; exact h.2.2⟩
theorem RdM_9 {b j : Nat} {v z : Int32} (h : RdM M l b v) : RdM (siM M 1009 j z) l b v := RdM_si h (by omega) (by omega)
/-- behind the digit: a colon and a number -/
theorem mtN {y b : Nat} (lk : LOK l) (H : MS M) (ho : o + 2 < 360) (hw : w < 2) (h : RdM M l b mI) (hb : b ≤ l.length) (h0 : giM M 1009 o = nI w) (h1 : giM M 1009 (o + 1) = nI y) (h14 : giM M 1003 14 = nI (scp w s)) : ∃ M', ((fM_ahead 1003 M).bind fun q14 => if q14.1 = 58 then (gd (obM q14.2 1003 11 34) <| gd (decide (grM q14.2 1003 11 ≠ 0)) <| if nI w = 0 then (BM_readStep_202 (nI w) (grM q14.2 1003 11) (nI o + 2) 1003 1 (siM q14.2 1003 3 ((giM q14.2 1003 3) + 1))) else (BM_readStep_202 (nI w) (grM q14.2 1003 11) (nI o + 2) 1003 0 (siM q14.2 1003 3 ((giM q14.2 1003 3) + 1)))) else (gd (obM q14.2 1003 11 34) <| (fM_bad 1003 q14.2).bind fun q17 => some q17)) = some M' ∧ FSm o M M' ∧ SPOm l o s (spN l w y (skp l b)) M' := by
  have ll := lk.1
  obtain ⟨M1, k1, F1, r1⟩ := ah_ok lk H h hb
  have hsl := skp_le (l := l) hb
  have H1 : MS M1 := MS_2 F1.1 H
  rw [k1, bs1n]
  unfold spN
  generalize skp l b = c at k1 r1 hsl
  show ∃ M', (if chL l c = 58 then (gd (obM M1 1003 11 34) <| gd (decide (grM M1 1003 11 ≠ 0)) <| if nI w = 0 then (BM_readStep_202 (nI w) (grM M1 1003 11) (nI o + 2) 1003 1 (siM M1 1003 3 ((giM M1 1003 3) + 1))) else (BM_readStep_202 (nI w) (grM M1 1003 11) (nI o + 2) 1003 0 (siM M1 1003 3 ((giM M1 1003 3) + 1)))) else (gd (obM M1 1003 11 34) <| (fM_bad 1003 M1).bind fun q17 => some q17)) = some M' ∧ _
  by_cases hc : l[c]? = some 58
  · have hcl : c < l.length := by
      rcases Nat.lt_or_ge c l.length with h1 | h1
      · exact h1
      · rw [List.getElem?_eq_none h1] at hc
        cases hc
    have ec : chL l c = nI 58 := by
      unfold chL
      rw [hc]
      rfl
    rw [if_pos hc, ec, if_pos (show nI 58 = 58 from rfl), ms_ob H1, gd1n, ms_g11 H1, d_nz (by omega), gd1n, r1.2.1, l_1, n_add]
    have H2 : MS (siM M1 1003 3 (nI (c + 1))) := MS_2 rfl H1
    have r2 := RdM_1 r1 (c + 1)
    have F2 : RP M (siM M1 1003 3 (nI (c + 1))) := RP_tr F1 (RP_3 _)
    generalize siM M1 1003 3 (nI (c + 1)) = N at H2 r2 F2
    obtain ⟨v, M3, k3, F3, hh⟩ := num_m (lo := loN w) (hi := hiN w) lk H2 r2 (by omega) (by unfold loN; split <;> omega) (by unfold hiN; split <;> omega)
    have H3 : MS M3 := MS_2 F3.1 H2
    have F23 := RP_tr F2 F3
    have e202 : (if nI w = 0 then (BM_readStep_202 (nI w) 1009 (nI o + 2) 1003 (nI 1) N) else (BM_readStep_202 (nI w) 1009 (nI o + 2) 1003 0 N)) = some (siM M3 1009 (o + 2) v) := by
      unfold BM_readStep_202 BM_readStep_213
      rcases (show w = 0 ∨ w = 1 by omega) with rfl | rfl
      · have k3 : fM_number 1003 (nI 1) 40 N = some (v, M3) := k3
        rw [if_pos (show nI 0 = 0 from rfl), if_pos (show nI 0 = 0 from rfl), ms_ob H2, gd1n, k3, bs1n, l_2, n_add, ar_wr (ms_a11 H3) ho, gd1n, n_cl (by omega)]
      · have k3 : fM_number 1003 0 23 N = some (v, M3) := k3
        rw [if_neg (show ¬ nI 1 = 0 by decide), if_neg (show ¬ nI 1 = 0 by decide), ms_ob H2, gd1n, k3, bs1n, l_2, n_add, ar_wr (ms_a11 H3) ho, gd1n, n_cl (by omega)]
    rw [e202]
    refine ⟨_, rfl, FSm_tr (FSm_RP F23) (FSm_9 _ (by omega) (by omega)), ?_⟩
    rcases hh with ⟨x, p, q1, q2, q3, q4⟩ | ⟨e, p, q1, q2, q3, q4⟩
    · rw [q1]
      refine ⟨RdM_9 q3, q4, ⟨?_, ?_, ?_⟩, ?_⟩
      · rw [giM_ud, ud_n _ _ (by omega), F23.2.1 1009 (by omega)]; exact h0
      · rw [giM_ud, ud_n _ _ (by omega), F23.2.1 1009 (by omega), h1]
        exact (if_pos (show w < 5 by omega)).symm
      · rw [giM_ud, ud_s, q2]
        exact (if_pos (show w < 2 by omega)).symm
      · rw [giM_un (by omega), F23.2.2 14 (by omega) (by omega)]; exact h14
    · rw [q1]
      exact ⟨q4, p, RdM_9 q2⟩
  · have hne : ¬ chL l c = 58 := fun e => by
      rcases Nat.lt_or_ge c l.length with hb | hb
      · rw [chL_lt hb] at e
        have := lk.2 _ (List.getElem_mem hb)
        exact hc (by rw [List.getElem?_eq_getElem hb, n_inj (b := 58) (by omega) (by omega) e])
      · rw [chL_ge hb] at e
        exact absurd e (by decide)
    have b1 := bad_ok H1 r1
    rw [if_neg hc, if_neg hne, ms_ob H1, gd1n, b1, bs1n]
    exact ⟨_, rfl, FSm_RP (RP_tr F1 (RP_4 _)), by omega, c, RdM_2 r1 _⟩
end MT
