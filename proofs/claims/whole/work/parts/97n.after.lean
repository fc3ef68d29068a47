/-! READING: what follows a clause, the class -/
section AF
variable {M M1 : Mem} {l : List Nat} {a p : Nat} {w : Int32}
theorem c156w {K : Nat → Nat → Int32 → Int32 → Mem → Option (Mem ⊕ Mem)} {v2 v3 : Int32} {e : Nat} (A : SHP M) (he : e ≤ 240) (h : RdC M l p (nI e)) : BU_readFrom_156 K 8 4 v2 v3 M = some (.inr M) := by
  have w1 := wr1 A (by omega) h
  unfold BU_readFrom_156
  rw [as_o4 A, gd1n, w1, bs1n, if_neg (show ¬ ((nI 1, M) : Int32 × Mem).1 = 0 from (show ¬ nI 1 = 0 by decide))]
theorem c156 {K : Nat → Nat → Int32 → Int32 → Mem → Option (Mem ⊕ Mem)} {v2 v3 : Int32} (lk : LOK l) (A : SHP M) (h : RdC M l p mI) (hp : p ≤ l.length) : ∃ M', Fr M M' 4 4 ∧ ((l[skp l p]? = none ∧ BU_readFrom_156 K 8 4 v2 v3 M = some (.inl M') ∧ RdC M' l (skp l p) mI) ∨ (l[skp l p]? = some 59 ∧ BU_readFrom_156 K 8 4 v2 v3 M = K 8 4 v2 (v3 + 1) M' ∧ RdC M' l (skp l p + 1) mI ∧ skp l p + 1 ≤ l.length) ∨ (∃ c p', l[skp l p]? = some c ∧ c ≠ 59 ∧ BU_readFrom_156 K 8 4 v2 v3 M = K 8 4 v2 (v3 + 1) M' ∧ RdC M' l p' (nI (skp l p)) ∧ skp l p ≤ 240)) := by
  have w0 := wr0 A h
  obtain ⟨M1, k1, F1, r1, i1, i2, i3⟩ := pek_ok lk A h hp
  have A1 := SHP_Fr A F1 (by omega)
  have ll := lk.1
  generalize skp l p = b at k1 r1 i1 i2 i3
  have eb : skp l b = b := skp_F i3
  cases hc : l[b]? with
  | none =>
    have e : chL l b = mI := by
      unfold chL
      rw [hc]
      rfl
    rw [e] at k1
    refine ⟨M1, F1, Or.inl ⟨rfl, ?_, r1⟩⟩
    unfold BU_readFrom_156
    rw [as_o4 A, gd1n, w0, bs1n, if_pos (show ((nI 0, M) : Int32 × Mem).1 = 0 from rfl), as_o4 A, gd1n, k1, bs1n, if_pos (show ((mI, M1) : Int32 × Mem).1 = -1 from rfl)]
  | some c =>
    have hb : b < l.length := by
      rcases Nat.lt_or_ge b l.length with h1 | h1
      · exact h1
      · rw [List.getElem?_eq_none h1] at hc
        cases hc
    have hcl : c ≤ 255 := by
      rw [List.getElem?_eq_getElem hb] at hc
      have := lk.2 _ (List.getElem_mem hb)
      have := Option.some.inj hc
      omega
    have e : chL l b = nI c := by
      unfold chL
      rw [hc]
      rfl
    rw [e] at k1
    have hn : ¬ ((nI c, M1) : Int32 × Mem).1 = -1 := of_eq_false (n_eqm (show c < 2147483648 by omega))
    by_cases h59 : c = 59
    · obtain ⟨M2, k2, F2, r2, i4⟩ := exp_T (c := 59) lk A1 r1 i1 (by rw [eb, hc, h59])
      rw [eb] at r2 i4
      refine ⟨M2, Fr_tr F1 F2, Or.inr (Or.inl ⟨by rw [h59], ?_, r2, i4⟩)⟩
      have k2 : fR_expect 4 59 M1 = some M2 := k2
      unfold BU_readFrom_156
      rw [as_o4 A, gd1n, w0, bs1n, if_pos (show ((nI 0, M) : Int32 × Mem).1 = 0 from rfl), as_o4 A, gd1n, k1, bs1n, if_neg hn, as_o4 A1, gd1n, k2, bs1n]
    · obtain ⟨M2, p', k2, F2, r2, i4⟩ := exp_F (c := 59) (d := c) lk A1 r1 i1 (by rw [eb, hc]) h59 (by omega)
      rw [eb] at r2 i4
      refine ⟨M2, Fr_tr F1 F2, Or.inr (Or.inr ⟨c, p', rfl, h59, ?_, r2, i4⟩)⟩
      have k2 : fR_expect 4 59 M1 = some M2 := k2
      unfold BU_readFrom_156
      rw [as_o4 A, gd1n, w0, bs1n, if_pos (show ((nI 0, M) : Int32 × Mem).1 = 0 from rfl), as_o4 A, gd1n, k1, bs1n, if_neg hn, as_o4 A1, gd1n, k2, bs1n]
end AF
