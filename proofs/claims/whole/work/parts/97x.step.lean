/-! READING: a step of a script, the class -/
section SX
variable {M M1 M2 : Mem} {l : List Nat} {a p i s w : Nat}
def ST1 (M : Mem) (i : Nat) (t : StT) : Prop := giM M 29 i = nI t.1 ∧ giM M 30 i = dB t ∧ giM M 31 i = dN t
theorem sr24 (v2 : Int32) (hw : w ≤ 6) (hs : s ≤ 6) (h : ¬ ((w = 5 ∧ 6 ≤ s) ∨ (w = 6 ∧ s = 0))) : BS_readStep_24 28 4 v2 (nI s) (nI w) M = BS_readStep_61 28 4 v2 (nI s) (nI w) 0 0 M := by
  unfold BS_readStep_24 BS_readStep_42 BS_readStep_43 BS_readStep_60
  by_cases h5 : w = 5
  · subst h5
    rw [if_pos (show nI 5 = 5 from rfl), if_pos (show nI s < 6 from of_eq_true (n_ltT (a := s) (b := 6) (by omega) (by omega))), if_neg (show ¬ nI 5 = 6 by decide)]
  · have e5 : ¬ nI w = 5 := fun e => h5 (n_inj (b := 5) (by omega) (by omega) e)
    rw [if_neg e5]
    by_cases h6 : w = 6
    · subst h6
      rw [if_pos (show nI 6 = 6 from rfl), if_pos (show 0 < nI s from of_eq_true (n_ltT (a := 0) (b := s) (by omega) (by omega)))]
    · have e6 : ¬ nI w = 6 := fun e => h6 (n_inj (b := 6) (by omega) (by omega) e)
      rw [if_neg e6]
theorem sr24n (v2 : Int32) (hs : s ≤ 6) (h : (w = 5 ∧ 6 ≤ s) ∨ (w = 6 ∧ s = 0)) : BS_readStep_24 28 4 v2 (nI s) (nI w) M = BS_readStep_78 4 (nI s) M := by
  unfold BS_readStep_24 BS_readStep_42 BS_readStep_43 BS_readStep_60 BS_readStep_61
  rcases h with ⟨rfl, h⟩ | ⟨rfl, rfl⟩
  · rw [if_pos (show nI 5 = 5 from rfl), if_neg (show ¬ nI s < 6 from of_eq_false (n_ltF (a := s) (b := 6) (by omega) (by omega))), if_neg (show ¬ nI 5 = 6 by decide), if_neg (show ¬ nI 5 < 0 by decide), if_neg (show ¬ (1 : Int32) = 0 by decide)]
  · rw [if_neg (show ¬ nI 6 = 5 by decide), if_pos (show nI 6 = 6 from rfl), if_neg (show ¬ 0 < nI 0 by decide), if_neg (show ¬ nI 6 < 0 by decide), if_pos (show (0 : Int32) = 0 from rfl), if_neg (show ¬ (1 : Int32) = 0 by decide)]
theorem sr24m (v2 : Int32) (hs : s ≤ 6) : BS_readStep_24 28 4 v2 (nI s) mI M = BS_readStep_78 4 (nI s) M := by
  unfold BS_readStep_24 BS_readStep_42 BS_readStep_43 BS_readStep_60 BS_readStep_61
  rw [if_neg (show ¬ mI = 5 by decide), if_neg (show ¬ mI = 6 by decide), if_pos (show mI < 0 by decide)]
theorem sr168 (hw : w ≤ 6) (h6 : w = 6 → 0 < s) : BS_readStep_168 (nI s) (nI w) M = some (nI (scp w s), M) := by
  unfold BS_readStep_168 BS_readStep_192 scp
  by_cases h5 : w = 5
  · subst h5
    rw [if_pos (show nI 5 = 5 from rfl), if_pos rfl, l_1, n_add]
  · have e5 : ¬ nI w = 5 := fun e => h5 (n_inj (b := 5) (by omega) (by omega) e)
    rw [if_neg e5, if_neg h5]
    by_cases h6' : w = 6
    · have := h6 h6'
      subst h6'
      rw [if_pos (show nI 6 = 6 from rfl), if_pos rfl, l_1, n_sub (by omega)]
    · have e6 : ¬ nI w = 6 := fun e => h6' (n_inj (b := 6) (by omega) (by omega) e)
      rw [if_neg e6, if_neg h6']
theorem sr168w (v3 v5 : Int32) : ∃ v, BS_readStep_168 v3 v5 M = some (v, M) := by
  unfold BS_readStep_168 BS_readStep_192
  split
  · exact ⟨_, rfl⟩
  · split
    · exact ⟨_, rfl⟩
    · exact ⟨_, rfl⟩
theorem sr115a (A : SHP M) (hi : i < 24) (hw : w < 2) (v3 bv : Int32) : BS_readStep_115 28 4 (nI i) v3 (nI w) 30 (nI i) bv M = BS_readStep_134 28 4 (nI i) v3 (nI w) (siM (siM M 30 i bv) 31 i mI) := by
  unfold BS_readStep_115
  rw [as_w30 A hi, gd1n, as_o28 A, gd1n, as_g28_2 A, d_nz (by omega), gd1n, as_w31 A hi, gd1n, n_cl (by omega)]
  rcases (show w = 0 ∨ w = 1 by omega) with rfl | rfl
  · rw [if_pos (show nI 0 = 0 from rfl)]
    rfl
  · rw [if_neg (show ¬ nI 1 = 0 by decide), if_pos (show nI 1 = 1 from rfl)]
    rfl
theorem sr115b (A : SHP M) (hi : i < 24) (hw : 2 ≤ w) (hw6 : w ≤ 6) (v3 bv : Int32) : BS_readStep_115 28 4 (nI i) v3 (nI w) 30 (nI i) bv M = BS_readStep_168 v3 (nI w) (siM (siM M 30 i bv) 31 i mI) := by
  have e0 : ¬ nI w = 0 := fun e => by have := n_inj (b := 0) (by omega) (by omega) e; omega
  have e1 : ¬ nI w = 1 := fun e => by have := n_inj (b := 1) (by omega) (by omega) e; omega
  unfold BS_readStep_115
  rw [as_w30 A hi, gd1n, as_o28 A, gd1n, as_g28_2 A, d_nz (by omega), gd1n, as_w31 A hi, gd1n, n_cl (by omega), if_neg e0, if_neg e1]
  rfl
theorem sr134 {v v3 : Int32} {M3 : Mem} (A : SHP M) (hi : i < 24) (hw : w < 2) (k1 : fR_expect 4 (nI 58) M = some M1) (F1 : Fr M M1 4 4) (k2 : fR_readNumber 4 (nI (loN w)) (nI (hiN w)) M1 = some (v, M3)) (F2 : Fr M1 M3 4 4) : BS_readStep_134 28 4 (nI i) v3 (nI w) M = BS_readStep_168 v3 (nI w) (siM M3 31 i v) := by
  have A1 := SHP_Fr A F1 (by omega)
  have A3 := SHP_Fr A1 F2 (by omega)
  have k1 : fR_expect 4 58 M = some M1 := k1
  unfold BS_readStep_134 BS_readStep_167
  rw [as_o4 A, gd1n, k1, bs1n, as_o28 A1, gd1n, as_g28_2 A1, d_nz (by omega), gd1n]
  rcases (show w = 0 ∨ w = 1 by omega) with rfl | rfl
  · have k2 : fR_readNumber 4 1 40 M1 = some (v, M3) := k2
    rw [if_pos (show nI 0 = 0 from rfl), as_o4 A1, gd1n, k2, bs1n, as_w31 A3 hi, gd1n, n_cl (by omega)]
  · have k2 : fR_readNumber 4 0 23 M1 = some (v, M3) := k2
    rw [if_neg (show ¬ nI 1 = 0 by decide), as_o4 A1, gd1n, k2, bs1n, as_w31 A3 hi, gd1n, n_cl (by omega)]
theorem sr_head (lk : LOK l) (A : SHP M) (h : RdC M l a mI) (ha : a ≤ l.length) (v2 v3 : Int32) : ∃ M1, fS_readStep 28 4 v2 v3 M = BS_readStep_24 28 4 v2 v3 (oN ((l[skp l a]?).bind (tix 2))) M1 ∧ Fr M M1 4 4 ∧ RdC M1 l (skp l a) mI := by
  obtain ⟨M1, k1, F1, r1, i1, i2, i3⟩ := pek_ok lk A h ha
  generalize skp l a = b at k1 r1 i1 i2 i3
  refine ⟨M1, ?_, F1, r1⟩
  unfold fS_readStep
  rw [as_o4 A, gd1n, k1, bs1n]
  rcases Nat.lt_or_ge b l.length with hb | hb
  · have hc := lk.2 _ (List.getElem_mem hb)
    rw [chL_lt hb, List.getElem?_eq_getElem hb, bs1n]
    generalize l[b] = c at hc
    have hn : ¬ ((nI c, M1) : Int32 × Mem).1 = -1 := of_eq_false (n_eqm (show c < 2147483648 by omega))
    have hix : fJ_indexOf 6003 (nI c) M1 = some (oN (tix 2 c), M1) := ixo_ok (i := 2) (by omega) (by decide) (by decide) (by omega)
    rw [if_neg hn, show stM 6003 = true from by decide, gd1n, chr_ok (by omega), hix, bs1n]
  · rw [chL_ge hb, List.getElem?_eq_none hb, if_pos (show ((mI, M1) : Int32 × Mem).1 = -1 from rfl)]
    rfl
def SPO (l : List Nat) (i s : Nat) (x : (Nat × StT) ⊕ Nat) (v : Int32) (M' : Mem) : Prop := match x with
  | .inl (p, t) => v = nI (scp t.1 s) ∧ RdC M' l p mI ∧ p ≤ l.length ∧ ST1 M' i t
  | .inr e => e ≤ 240 ∧ ∃ p', p' ≤ l.length ∧ RdC M' l p' (nI e)
/-- behind the digit: a colon and a number -/
theorem srN {y b : Nat} {v3 bv : Int32} (lk : LOK l) (A : SHP M) (hi : i < 24) (hw : w < 2) (h : RdC M l b mI) (hb : b ≤ l.length) (h29 : giM M 29 i = nI w) (hbv : bv = nI y) (hv3 : v3 = nI s) : ∃ v M', BS_readStep_115 28 4 (nI i) v3 (nI w) 30 (nI i) bv M = some (v, M') ∧ FS i M M' ∧ SPO l i s (spN l w y (skp l b)) v M' := by
  have ll := lk.1
  rw [sr115a A hi hw]
  have X : FS i M (siM (siM M 30 i bv) 31 i mI) := FS_tr (FS_30 _) (FS_31 _)
  have A1 := SHP_FS A X
  have r1 : RdC (siM (siM M 30 i bv) 31 i mI) l b mI := RdC_o (RdC_o h (by omega) (by omega) (by omega)) (by omega) (by omega) (by omega)
  have z29 : giM (siM (siM M 30 i bv) 31 i mI) 29 i = nI w := by rw [giM_un (by omega), giM_un (by omega)]; exact h29
  have z30 : giM (siM (siM M 30 i bv) 31 i mI) 30 i = nI y := by rw [giM_un (by omega), giM_ud, ud_s]; exact hbv
  generalize siM (siM M 30 i bv) 31 i mI = N at X A1 r1 z29 z30
  obtain ⟨M2, k2, F2, hh⟩ := exp_c (c := 58) lk A1 r1 hb (by omega)
  have A2 := SHP_Fr A1 F2 (by omega)
  unfold spN
  rcases hh with ⟨h1, r2, i2⟩ | ⟨h1, r2, i2⟩
  · rw [if_pos h1]
    obtain ⟨v, M3, k3, F3, hh⟩ := num_c (lo := loN w) (hi := hiN w) lk A2 r2 i2 (by unfold loN; split <;> omega) (by unfold hiN; split <;> omega)
    have A3 := SHP_Fr A2 F3 (by omega)
    rw [sr134 A1 hi hw k2 F2 k3 F3]
    have FF : FS i M (siM M3 31 i v) := FS_tr X (FS_tr (FS_F4 F2) (FS_tr (FS_F4 F3) (FS_31 _)))
    rcases hh with ⟨x, p, q1, q2, q3, q4⟩ | ⟨e, p, q1, q2, q3, q4⟩
    · rw [q1, hv3, sr168 (by omega) (fun e => by omega)]
      refine ⟨_, _, rfl, FF, rfl, RdC_o q3 (by omega) (by omega) (by omega), q4, ?_, ?_, ?_⟩
      · rw [giM_un (by omega), F3.2 29 (by omega), F2.2 29 (by omega)]; exact z29
      · rw [giM_un (by omega), F3.2 30 (by omega), F2.2 30 (by omega)]
        unfold dB
        rw [if_pos (show w < 5 by omega)]; exact z30
      · rw [giM_ud, ud_s]
        unfold dN
        rw [if_pos (show w < 2 by omega)]; exact q2
    · rw [q1]
      obtain ⟨v', e1⟩ := sr168w (M := siM M3 31 i v) v3 (nI w)
      exact ⟨v', _, e1, FF, q4, p, q3, RdC_o q2 (by omega) (by omega) (by omega)⟩
  · rw [if_neg h1]
    obtain ⟨v, M3, p', k3, F3, r3, i3⟩ := num_w (v1 := nI (loN w)) (v2 := nI (hiN w)) lk A2 (show skp l b ≤ 240 by omega) r2 i2
    rw [sr134 A1 hi hw k2 F2 k3 F3]
    obtain ⟨v', e1⟩ := sr168w (M := siM M3 31 i v) v3 (nI w)
    exact ⟨v', _, e1, FS_tr X (FS_tr (FS_F4 F2) (FS_tr (FS_F4 F3) (FS_31 _))), by omega, p', i3, RdC_o r3 (by omega) (by omega) (by omega)⟩
theorem srW {e b : Nat} {v3 bv : Int32} (lk : LOK l) (A : SHP M) (hi : i < 24) (hw : w ≤ 6) (he : e ≤ 240) (h : RdC M l b (nI e)) (hb : b ≤ l.length) : ∃ v M', BS_readStep_115 28 4 (nI i) v3 (nI w) 30 (nI i) bv M = some (v, M') ∧ FS i M M' ∧ SPO l i s (.inr e) v M' := by
  have X : FS i M (siM (siM M 30 i bv) 31 i mI) := FS_tr (FS_30 _) (FS_31 _)
  have A1 := SHP_FS A X
  have r1 : RdC (siM (siM M 30 i bv) 31 i mI) l b (nI e) := RdC_o (RdC_o h (by omega) (by omega) (by omega)) (by omega) (by omega) (by omega)
  rcases Nat.lt_or_ge w 2 with h2 | h2
  · rw [sr115a A hi h2]
    generalize siM (siM M 30 i bv) 31 i mI = N at X A1 r1
    obtain ⟨M2, p2, k2, F2, r2, i2⟩ := exp_w (c := 58) lk A1 he r1 hb
    have A2 := SHP_Fr A1 F2 (by omega)
    obtain ⟨v, M3, p', k3, F3, r3, i3⟩ := num_w (v1 := nI (loN w)) (v2 := nI (hiN w)) lk A2 he r2 i2
    rw [sr134 A1 hi h2 k2 F2 k3 F3]
    obtain ⟨v', e1⟩ := sr168w (M := siM M3 31 i v) v3 (nI w)
    exact ⟨v', _, e1, FS_tr X (FS_tr (FS_F4 F2) (FS_tr (FS_F4 F3) (FS_31 _))), he, p', i3, RdC_o r3 (by omega) (by omega) (by omega)⟩
  · rw [sr115b A hi h2 hw]
    obtain ⟨v', e1⟩ := sr168w (M := siM (siM M 30 i bv) 31 i mI) v3 (nI w)
    exact ⟨v', _, e1, X, he, b, hb, r1⟩
theorem srCl (lk : LOK l) (A : SHP M) (h : RdC M l a mI) (ha : a ≤ l.length) (hi : i < 24) (hs : s ≤ 6) : ∃ v M', fS_readStep 28 4 (nI i) (nI s) M = some (v, M') ∧ FS i M M' ∧ SPO l i s (spR l a s) v M' := by
  have ll := lk.1
  obtain ⟨M1, k1, F1, r1⟩ := sr_head lk A h ha (nI i) (nI s)
  have hsl := skp_le (l := l) ha
  have A1 := SHP_Fr A F1 (by omega)
  rw [k1]
  unfold spR
  have stop : ∀ v3, ∃ v M', BS_readStep_78 4 v3 M1 = some (v, M') ∧ FS i M M' ∧ SPO l i s (.inr (skp l a)) v M' := fun v3 => by
    have m1 := mark_ok A1 r1
    refine ⟨v3, _, ?_, FS_tr (FS_F4 F1) (FS_F4 F4), by omega, skp l a, hsl, RdC_2 r1 _⟩
    unfold BS_readStep_78
    rw [as_o4 A1, gd1n, m1, bs1n]
  generalize hbb : skp l a = b at *
  cases ht : (l[b]?).bind (tix 2) with
  | none =>
    show ∃ v M', BS_readStep_24 28 4 (nI i) (nI s) mI M1 = some (v, M') ∧ _
    rw [sr24m _ hs]
    exact stop _
  | some w =>
    have hbl : b < l.length := by
      rcases Nat.lt_or_ge b l.length with h1 | h1
      · exact h1
      · rw [List.getElem?_eq_none h1] at ht
        cases ht
    have hw : w ≤ 6 := by
      rw [List.getElem?_eq_getElem hbl, bs1n] at ht
      exact tix_26 ht
    show ∃ v M', BS_readStep_24 28 4 (nI i) (nI s) (nI w) M1 = some (v, M') ∧ FS i M M' ∧ SPO l i s (if (w = 5 ∧ 6 ≤ s) ∨ (w = 6 ∧ s = 0) then .inr b else if 5 ≤ w then .inl (b + 1, w, 0, 0) else spD l w (skp l (b + 1))) v M'
    by_cases hn : (w = 5 ∧ 6 ≤ s) ∨ (w = 6 ∧ s = 0)
    · rw [sr24n _ hs hn, if_pos hn]
      exact stop _
    · rw [sr24 _ hw hs hn, if_neg hn]
      have p1 := pass_ok lk A1 r1 hbl
      have r2 := RdC_1 r1 (b + 1)
      have F2 : Fr M (siM M1 4 1 (nI (b + 1))) 4 4 := Fr_tr F1 F4
      have A2 := SHP_4 (i := 1) (z := nI (b + 1)) A1
      generalize siM M1 4 1 (nI (b + 1)) = M2 at p1 r2 F2 A2
      have A3 : SHP (siM M2 29 i (nI w)) := SHP_FS A2 (FS_29 (i := i) (nI w))
      have r3 : RdC (siM M2 29 i (nI w)) l (b + 1) mI := RdC_o r2 (by omega) (by omega) (by omega)
      have F3 : FS i M (siM M2 29 i (nI w)) := FS_tr (FS_F4 F2) (FS_29 _)
      have z3 : giM (siM M2 29 i (nI w)) 29 i = nI w := by rw [giM_ud, ud_s]
      have e61 : BS_readStep_61 28 4 (nI i) (nI s) (nI w) 0 0 M1 = if 5 ≤ nI w then (BS_readStep_115 28 4 (nI i) (nI s) (nI w) 30 (nI i) mI (siM M2 29 i (nI w))) else ((fR_readDigit 4 (siM M2 29 i (nI w))).bind fun q7 => BS_readStep_115 28 4 (nI i) (nI s) (nI w) 30 (nI i) q7.1 q7.2) := by
        unfold BS_readStep_61
        rw [if_neg (show ¬ nI w < 0 from of_eq_false (n_ltF (a := w) (b := 0) (by omega) (by omega))), if_pos (show (0 : Int32) = 0 from rfl), if_pos (show (0 : Int32) = 0 from rfl), as_o4 A1, gd1n, p1, bs1n, as_o28 A2, gd1n, as_g28_0 A2, d_nz (show 0 < 29 by omega), gd1n, as_w29 A2 hi, gd1n, as_g28_1 A2, d_nz (show 0 < 30 by omega), gd1n, n_cl (by omega), as_o4 A2, gd1n]
        rfl
      rw [e61]
      by_cases h5 : 5 ≤ w
      · rw [if_pos h5, if_pos (show 5 ≤ nI w from of_eq_true (n_leT (a := 5) (b := w) (by omega) (by omega))), sr115b A3 hi (by omega) hw, sr168 hw (fun e => by omega)]
        refine ⟨_, _, rfl, FS_tr F3 (FS_tr (FS_30 _) (FS_31 _)), rfl, RdC_o (RdC_o r3 (by omega) (by omega) (by omega)) (by omega) (by omega) (by omega), by omega, ?_, ?_, ?_⟩
        · rw [giM_un (by omega), giM_un (by omega)]; exact z3
        · rw [giM_un (by omega), giM_ud, ud_s]
          exact (if_neg (show ¬ w < 5 by omega)).symm
        · rw [giM_ud, ud_s]
          exact (if_neg (show ¬ w < 2 by omega)).symm
      · rw [if_neg h5, if_neg (show ¬ 5 ≤ nI w from of_eq_false (n_leF (a := 5) (b := w) (by omega) (by omega)))]
        unfold spD
        obtain ⟨v, M4, k4, F4', hh⟩ := dig_c lk A3 r3 (by omega)
        have A4 := SHP_Fr A3 F4' (by omega)
        rw [k4, bs1n]
        have FF : FS i M M4 := FS_tr F3 (FS_F4 F4')
        have z4 : giM M4 29 i = nI w := by rw [F4'.2 29 (by omega)]; exact z3
        rcases hh with ⟨y, h1, h2, r4, i4⟩ | ⟨h1, r4, i4⟩
        · rw [h1]
          show ∃ v' M', BS_readStep_115 28 4 (nI i) (nI s) (nI w) 30 (nI i) v M4 = some (v', M') ∧ FS i M M' ∧ SPO l i s (if 2 ≤ w then .inl (skp l (b + 1) + 1, w, y, 0) else spN l w y (skp l (skp l (b + 1) + 1))) v' M'
          by_cases hw2 : 2 ≤ w
          · rw [if_pos hw2, sr115b A4 hi hw2 hw, sr168 hw (fun e => by omega)]
            refine ⟨_, _, rfl, FS_tr FF (FS_tr (FS_30 _) (FS_31 _)), rfl, RdC_o (RdC_o r4 (by omega) (by omega) (by omega)) (by omega) (by omega) (by omega), i4, ?_, ?_, ?_⟩
            · rw [giM_un (by omega), giM_un (by omega)]; exact z4
            · rw [giM_un (by omega), giM_ud, ud_s, h2]
              exact (if_pos (show w < 5 by omega)).symm
            · rw [giM_ud, ud_s]
              exact (if_neg (show ¬ w < 2 by omega)).symm
          · rw [if_neg hw2]
            obtain ⟨v', M', k5, F5, q⟩ := srN (s := s) (y := y) (v3 := nI s) lk A4 hi (by omega) r4 i4 z4 h2 rfl
            exact ⟨v', M', k5, FS_tr FF F5, q⟩
        · rw [h1]
          obtain ⟨v', M', k5, F5, q⟩ := srW (s := s) (v3 := nI s) (bv := v) lk A4 hi hw (show skp l (b + 1) ≤ 240 by omega) r4 i4
          exact ⟨v', M', k5, FS_tr FF F5, q⟩
end SX
