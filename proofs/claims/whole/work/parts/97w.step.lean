/-! READING: a step of a script, as a pure function; the class -/
abbrev StT : Type := Nat × Nat × Nat
def loN (w : Nat) : Nat := if w = 0 then 1 else 0
def hiN (w : Nat) : Nat := if w = 0 then 40 else 23
def spN (l : List Nat) (w y c : Nat) : (Nat × StT) ⊕ Nat := if l[c]? = some 58 then (match nmF l (c + 1) (loN w) (hiN w) with
  | .inl (x, p) => .inl (p, w, y, x)
  | .inr e => .inr e) else .inr c
def spD (l : List Nat) (w b : Nat) : (Nat × StT) ⊕ Nat := match dgL l b with
  | none => .inr b
  | some y => if 2 ≤ w then .inl (b + 1, w, y, 0) else spN l w y (skp l (b + 1))
def spR (l : List Nat) (a s : Nat) : (Nat × StT) ⊕ Nat := match (l[skp l a]?).bind (tix 2) with
  | none => .inr (skp l a)
  | some w => if (w = 5 ∧ 6 ≤ s) ∨ (w = 6 ∧ s = 0) then .inr (skp l a) else if 5 ≤ w then .inl (skp l a + 1, w, 0, 0) else spD l w (skp l (skp l a + 1))
def scp (w s : Nat) : Nat := if w = 5 then s + 1 else if w = 6 then s - 1 else s
def dB (t : StT) : Int32 := if t.1 < 5 then nI t.2.1 else mI
def dN (t : StT) : Int32 := if t.1 < 2 then nI t.2.2 else mI
theorem tix_2 : ∀ c, c < 256 → tix 2 c = if c = 103 then some 0 else if c = 102 then some 1 else if c = 120 then some 2 else if c = 107 then some 3 else if c = 109 then some 4 else if c = 40 then some 5 else if c = 41 then some 6 else none := by decide +kernel
theorem tix_26 {c w : Nat} (h : tix 2 c = some w) : w ≤ 6 := by
  have := tx_b (i := 2) (many := 7) (by decide) h
  omega
section SP
variable {M M1 M2 : Mem} {l : List Nat} {a p i : Nat} {w : Int32}
def FS (i : Nat) (M M' : Mem) : Prop := M'.2 = M.2 ∧ (∀ x, x ≠ 4 → x ≠ 29 → x ≠ 30 → x ≠ 31 → giM M' x = giM M x) ∧ ∀ j, j ≠ i → giM M' 29 j = giM M 29 j ∧ giM M' 30 j = giM M 30 j ∧ giM M' 31 j = giM M 31 j
theorem FS_refl (i : Nat) (M : Mem) : FS i M M := ⟨rfl, fun _ _ _ _ _ => rfl, fun _ _ => ⟨rfl, rfl, rfl⟩⟩
theorem FS_tr (h : FS i M M1) (g : FS i M1 M2) : FS i M M2 := ⟨g.1.trans h.1, fun x h1 h2 h3 h4 => (g.2.1 x h1 h2 h3 h4).trans (h.2.1 x h1 h2 h3 h4), fun j hj => ⟨(g.2.2 j hj).1.trans (h.2.2 j hj).1, (g.2.2 j hj).2.1.trans (h.2.2 j hj).2.1, (g.2.2 j hj).2.2.trans (h.2.2 j hj).2.2⟩⟩
theorem FS_F4 (F : Fr M M1 4 4) : FS i M M1 := ⟨F.1, fun x h1 _ _ _ => F.2 x (by omega), fun j _ => ⟨by rw [F.2 29 (by omega)], by rw [F.2 30 (by omega)], by rw [F.2 31 (by omega)]⟩⟩
theorem FS_29 (z : Int32) : FS i M (siM M 29 i z) := ⟨rfl, fun x _ h _ _ => giM_un h, fun j hj => ⟨by rw [giM_ud, ud_n _ _ hj], by rw [giM_un (by omega)], by rw [giM_un (by omega)]⟩⟩
theorem FS_30 (z : Int32) : FS i M (siM M 30 i z) := ⟨rfl, fun x _ _ h _ => giM_un h, fun j hj => ⟨by rw [giM_un (by omega)], by rw [giM_ud, ud_n _ _ hj], by rw [giM_un (by omega)]⟩⟩
theorem FS_31 (z : Int32) : FS i M (siM M 31 i z) := ⟨rfl, fun x _ _ _ h => giM_un h, fun j hj => ⟨by rw [giM_un (by omega)], by rw [giM_un (by omega)], by rw [giM_ud, ud_n _ _ hj]⟩⟩
theorem SHP_FS (A : SHP M) (F : FS i M M1) : SHP M1 := SHP_2 A F.1 (fun x h1 _ => F.2.1 x (by omega) (by omega) (by omega) (by omega))
theorem RdC_o {x j : Nat} {z : Int32} {b : Nat} (h : RdC M l b w) (h1 : x ≠ 2) (h2 : x ≠ 3) (h3 : x ≠ 4) : RdC (siM M x j z) l b w := ⟨TPc_cg h.1 (giM_un (fun e => h1 e.symm)) (giM_un (fun e => h2 e.symm)), by rw [giM_un (fun e => h3 e.symm)]; exact h.2.1, by rw [giM_un (fun e => h3 e.symm)]; exact h.2.2⟩
theorem mark_w {e : Nat} (A : SHP M) (he : e ≤ 240) (h : RdC M l a (nI e)) : fR_mark 4 M = some M := by
  unfold fR_mark BR_mark_16
  rw [as_o4 A, gd1n, h.2.2, if_neg (ne_m1 he)]
theorem exp_c {c : Nat} (lk : LOK l) (A : SHP M) (h : RdC M l a mI) (ha : a ≤ l.length) (hc : c < 256) : ∃ M', fR_expect 4 (nI c) M = some M' ∧ Fr M M' 4 4 ∧ ((l[skp l a]? = some c ∧ RdC M' l (skp l a + 1) mI ∧ skp l a + 1 ≤ l.length) ∨ (l[skp l a]? ≠ some c ∧ RdC M' l (skp l a) (nI (skp l a)) ∧ skp l a ≤ l.length)) := by
  by_cases hd : l[skp l a]? = some c
  · obtain ⟨M', k, F, r, i1⟩ := exp_T lk A h ha hd
    exact ⟨M', k, F, Or.inl ⟨hd, r, i1⟩⟩
  · obtain ⟨M1, k1, F1, r1, i1, i2, i3⟩ := pek_ok lk A h ha
    have A1 := SHP_Fr A F1 (by omega)
    generalize skp l a = b at k1 r1 i1 i2 i3 hd
    have m1 := mark_ok A1 r1
    refine ⟨_, ?_, Fr_tr F1 F4, Or.inr ⟨hd, RdC_2 r1 (nI b), i1⟩⟩
    have hne : ¬ chL l b = nI c := fun e => by
      rcases Nat.lt_or_ge b l.length with hb | hb
      · rw [chL_lt hb] at e
        have := lk.2 _ (List.getElem_mem hb)
        exact hd (by rw [List.getElem?_eq_getElem hb, n_inj (b := c) (by omega) (by omega) e])
      · rw [chL_ge hb] at e
        exact absurd e (of_eq_false (n_eqm' (a := c) (by omega)))
    unfold fR_expect BR_expect_19
    rw [as_o4 A, gd1n, k1, bs1n, if_neg (show ¬ ((chL l b, M1) : Int32 × Mem).1 = nI c from hne), as_o4 A1, gd1n, m1, bs1n]
theorem exp_w {c e : Nat} (lk : LOK l) (A : SHP M) (he : e ≤ 240) (h : RdC M l a (nI e)) (ha : a ≤ l.length) : ∃ M' p, fR_expect 4 (nI c) M = some M' ∧ Fr M M' 4 4 ∧ RdC M' l p (nI e) ∧ p ≤ l.length := by
  obtain ⟨M1, k1, F1, r1, i1, i2, i3⟩ := pek_ok lk A h ha
  have A1 := SHP_Fr A F1 (by omega)
  generalize skp l a = b at k1 r1 i1 i2 i3
  by_cases hd : chL l b = nI c
  · rcases Nat.lt_or_ge b l.length with hb | hb
    · have p1 := pass_ok lk A1 r1 hb
      refine ⟨_, b + 1, ?_, Fr_tr F1 F4, RdC_1 r1 (b + 1), by omega⟩
      unfold fR_expect BR_expect_19
      rw [as_o4 A, gd1n, k1, bs1n, if_pos (show ((chL l b, M1) : Int32 × Mem).1 = nI c from hd), as_o4 A1, gd1n, p1, bs1n]
    · have e1 := r1.2.1
      have e2 := r1.1.1
      have ll := lk.1
      have p1 : fR_pass 4 M1 = some M1 := by
        simp (disch := omega) only [fR_pass, BR_pass_24, gd1n, bs1n, ↓reduceIte, d_nz, d_nn, or_true, true_or, or_false, false_or, decide_true, Sum.elim_inl, Sum.elim_inr, ↓l_m1, l_0, l_1, l_2, l_3, l_4, l_5, l_6, l_7, l_8, l_9, l_10, l_16, l_17, l_18, l_20, l_23, l_24, l_30, l_31, l_32, l_39, l_40, l_41, l_48, l_57, l_58, l_59, l_60, l_63, l_90, l_97, l_98, l_99, l_100, l_102, l_103, l_104, l_107, l_109, l_112, l_115, l_116, l_117, l_120, l_122, l_126, l_166, l_180, l_240, l_255, l_640, l_999, l_2656, l_3064, l_3704, l_3708, l_3712, l_3713, l_3893, l_155720, l_1000000, n_ltT, n_ltF, n_leT, n_leF, n_eqT, n_eqF, n_eqm, n_eqm', n_mltn, n_mlen, n_nltm, n_nlem, n_mltm, n_mlem, n_add, n_mul, n_sub, n_subm, n_cl, n_ofNat, n_div, n_mod, obM_si, rdI_si, wrI_si, lnI_si, grM_si', tgM_si', obM_sa, rdI_sa, wrI_sa, lnI_sa, grM_sa', tgM_sa', as_o1 A1, as_g1_0 A1, as_g1_1 A1, as_g1_2 A1, as_g1_3 A1, as_g1_4 A1, as_g1_6 A1, as_g1_7 A1, as_g1_8 A1, as_g1_9 A1, as_g1_11 A1, as_g1_12 A1, as_g1_13 A1, as_g1_14 A1, as_o2 A1, as_g2_0 A1, as_t3 A1, as_r3 A1, as_w3 A1, as_l3 A1, as_o4 A1, as_g4_0 A1, as_o5 A1, as_g5_0 A1, as_g5_1 A1, as_t6 A1, as_r6 A1, as_w6 A1, as_l6 A1, as_t7 A1, as_r7 A1, as_w7 A1, as_l7 A1, as_o8 A1, as_g8_0 A1, as_g8_1 A1, as_t9 A1, as_r9 A1, as_w9 A1, as_l9 A1, as_t10 A1, as_r10 A1, as_w10 A1, as_l10 A1, as_o28 A1, as_g28_0 A1, as_g28_1 A1, as_g28_2 A1, as_t29 A1, as_r29 A1, as_w29 A1, as_l29 A1, as_t30 A1, as_r30 A1, as_w30 A1, as_l30 A1, as_t31 A1, as_r31 A1, as_w31 A1, as_l31 A1, as_o50 A1, as_g50_0 A1, as_t790 A1, as_r790 A1, as_w790 A1, as_l790 A1, as_o791 A1, as_g791_0 A1, as_g791_1 A1, as_g791_2 A1, as_o999 A1, as_g999_0 A1, as_g999_1 A1, as_g999_2 A1, as_t1000 A1, as_r1000 A1, as_w1000 A1, as_l1000 A1, as_t1001 A1, as_r1001 A1, as_w1001 A1, as_l1001 A1, as_t1002 A1, as_r1002 A1, as_w1002 A1, as_l1002 A1, as_x11 A1, as_x51 A1, as_x792 A1, as_x793 A1, as_x794 A1, as_t792 A1, as_ln792 A1, as_s11 A1, as_so A1, as_sg0 A1, as_sg1 A1, as_sg2 A1, as_sr1 A1, as_sr2 A1, as_sr3 A1, as_p51 A1, e1, e2]
      refine ⟨M1, b, ?_, F1, r1, i1⟩
      unfold fR_expect BR_expect_19
      rw [as_o4 A, gd1n, k1, bs1n, if_pos (show ((chL l b, M1) : Int32 × Mem).1 = nI c from hd), as_o4 A1, gd1n, p1, bs1n]
  · have m1 := mark_w A1 he r1
    refine ⟨M1, b, ?_, F1, r1, i1⟩
    unfold fR_expect BR_expect_19
    rw [as_o4 A, gd1n, k1, bs1n, if_neg (show ¬ ((chL l b, M1) : Int32 × Mem).1 = nI c from hd), as_o4 A1, gd1n, m1, bs1n]
theorem dig_c (lk : LOK l) (A : SHP M) (h : RdC M l a mI) (ha : a ≤ l.length) : ∃ v M', fR_readDigit 4 M = some (v, M') ∧ Fr M M' 4 4 ∧ ((∃ y, dgL l (skp l a) = some y ∧ v = nI y ∧ RdC M' l (skp l a + 1) mI ∧ skp l a + 1 ≤ l.length) ∨ (dgL l (skp l a) = none ∧ RdC M' l (skp l a) (nI (skp l a)) ∧ skp l a ≤ l.length)) := by
  obtain ⟨M1, k1, F1, r1, i1, i2, i3⟩ := pek_ok lk A h ha
  have A1 := SHP_Fr A F1 (by omega)
  generalize skp l a = b at k1 r1 i1 i2 i3
  cases hd : dgL l b with
  | none =>
    have d0 := dC0 (M := M1) lk hd
    have m1 := mark_ok A1 r1
    refine ⟨nI 0, siM M1 4 2 (nI b), ?_, Fr_tr F1 F4, Or.inr ⟨rfl, RdC_2 r1 (nI b), i1⟩⟩
    unfold fR_readDigit
    rw [as_o4 A, gd1n, k1, bs1n, d0, bs1n, if_pos (show ((nI 0, M1) : Int32 × Mem).1 = 0 from rfl), as_o4 A1, gd1n, m1, bs1n]
    rfl
  | some d =>
    obtain ⟨j1, j2, j3⟩ := dg_some hd
    have d1 := dC1 (M := M1) lk hd
    have p1 := pass_ok lk A1 r1 j1
    refine ⟨nI d, siM M1 4 1 (nI (b + 1)), ?_, Fr_tr F1 F4, Or.inl ⟨d, rfl, rfl, RdC_1 r1 (b + 1), by omega⟩⟩
    unfold fR_readDigit
    rw [as_o4 A, gd1n, k1, bs1n, d1, bs1n, if_neg (show ¬ ((nI 1, M1) : Int32 × Mem).1 = 0 from (show ¬ nI 1 = 0 by decide)), as_o4 A1, gd1n, p1, bs1n, j3, l_48, n_sub (by omega), Nat.add_sub_cancel]
theorem dig_w {e : Nat} (lk : LOK l) (A : SHP M) (he : e ≤ 240) (h : RdC M l a (nI e)) (ha : a ≤ l.length) : ∃ v M' p, fR_readDigit 4 M = some (v, M') ∧ Fr M M' 4 4 ∧ RdC M' l p (nI e) ∧ p ≤ l.length := by
  obtain ⟨M1, k1, F1, r1, i1, i2, i3⟩ := pek_ok lk A h ha
  have A1 := SHP_Fr A F1 (by omega)
  generalize skp l a = b at k1 r1 i1 i2 i3
  cases hd : dgL l b with
  | none =>
    have d0 := dC0 (M := M1) lk hd
    have m1 := mark_w A1 he r1
    refine ⟨0, M1, b, ?_, F1, r1, i1⟩
    unfold fR_readDigit
    rw [as_o4 A, gd1n, k1, bs1n, d0, bs1n, if_pos (show ((nI 0, M1) : Int32 × Mem).1 = 0 from rfl), as_o4 A1, gd1n, m1, bs1n]
  | some d =>
    obtain ⟨j1, j2, j3⟩ := dg_some hd
    have d1 := dC1 (M := M1) lk hd
    have p1 := pass_ok lk A1 r1 j1
    refine ⟨chL l b - 48, siM M1 4 1 (nI (b + 1)), b + 1, ?_, Fr_tr F1 F4, RdC_1 r1 (b + 1), by omega⟩
    unfold fR_readDigit
    rw [as_o4 A, gd1n, k1, bs1n, d1, bs1n, if_neg (show ¬ ((nI 1, M1) : Int32 × Mem).1 = 0 from (show ¬ nI 1 = 0 by decide)), as_o4 A1, gd1n, p1, bs1n]
theorem num_w {e : Nat} {v1 v2 : Int32} (lk : LOK l) (A : SHP M) (he : e ≤ 240) (h : RdC M l a (nI e)) (ha : a ≤ l.length) : ∃ v M' p, fR_readNumber 4 v1 v2 M = some (v, M') ∧ Fr M M' 4 4 ∧ RdC M' l p (nI e) ∧ p ≤ l.length := by
  obtain ⟨v, M1, p, k1, F1, r1, i1⟩ := dig_w lk A he h ha
  have A1 := SHP_Fr A F1 (by omega)
  have w1 := wr1 A1 (by omega) r1
  refine ⟨v1, M1, p, ?_, F1, r1, i1⟩
  unfold fR_readNumber
  rw [as_o4 A, gd1n, k1, bs1n, as_o4 A1, gd1n, w1, bs1n, if_neg (show ¬ ((nI 1, M1) : Int32 × Mem).1 = 0 from (show ¬ nI 1 = 0 by decide))]
end SP
