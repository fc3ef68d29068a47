/-! READING: a turn that is refused, the class -/
section RF3
variable {M M1 M2 : Mem} {l : List Nat} {a p : Nat} {w : Int32}
theorem c152 {K : Nat → Nat → Int32 → Int32 → Mem → Option (Mem ⊕ Mem)} {v2 v3 : Int32} {b : Nat} (A : SHP M) (hb : b ≤ 240) (h : RdC M l b mI) : BU_readFrom_152 K 8 4 v2 v3 M = some (.inr (siM M 4 2 (nI b))) ∧ RdC (siM M 4 2 (nI b)) l b (nI b) := by
  have m1 := mark_ok A h
  have r := RdC_2 h (nI b)
  have A1 := SHP_4 (i := 2) (z := nI b) A
  refine ⟨?_, r⟩
  unfold BU_readFrom_152
  rw [as_o4 A, gd1n, m1, bs1n]
  exact c156w A1 hb r
theorem rf_no {K : Nat → Nat → Int32 → Int32 → Mem → Option (Mem ⊕ Mem)} {v2 v3 : Int32} {k : Nat} {f z : Nat → Nat} (lk : LOK l) (A : SHP M) (h3 : ¬ 240 ≤ v3) (h : RdC M l a mI) (ha : a ≤ l.length) (g : RG M f k z) (hs : l[skp l a]? = some 115 → ¬ v2 = 0) (hc : l[skp l a]? = some 99 → k = 6) : ∃ M', BU_readFrom_30 K 8 4 v2 v3 M = some (.inr M') ∧ FA M M' ∧ RdC M' l (skp l a) (nI (skp l a)) ∧ skp l a ≤ 240 := by
  have w0 := wr0 A h
  have ll := lk.1
  obtain ⟨M1, k1, F1, r1, i1, i2, i3⟩ := pek_ok lk A h ha
  have A1 := SHP_Fr A F1 (by omega)
  have g1 := (RG_F4 g F1).2.1
  generalize skp l a = b at k1 r1 i1 i2 i3 hs hc
  obtain ⟨e1, e2⟩ := c152 (K := K) (v2 := v2) (v3 := v3) A1 (by omega) r1
  refine ⟨siM M1 4 2 (nI b), ?_, FA_tr (FA_F4 F1) (FA_F4 F4), e2, by omega⟩
  have e87 : BU_readFrom_87 K 8 4 v2 v3 (chL l b) M1 = some (.inr (siM M1 4 2 (nI b))) := by
    unfold BU_readFrom_87
    by_cases h99 : chL l b = 99
    · rw [if_pos h99, as_o8 A1, gd1n, g1]
      have hk : k = 6 := by
        apply hc
        rcases Nat.lt_or_ge b l.length with hb | hb
        · rw [chL_lt hb] at h99
          have := lk.2 _ (List.getElem_mem hb)
          rw [List.getElem?_eq_getElem hb, n_inj (b := 99) (by omega) (by omega) h99]
        · rw [chL_ge hb] at h99
          exact absurd h99 (by decide)
      rw [hk, if_pos (show (6 : Int32) ≤ nI 6 by decide)]
      exact e1
    · rw [if_neg h99]
      exact e1
  unfold BU_readFrom_30
  rw [if_neg h3, as_o4 A, gd1n, w0, bs1n, if_pos (show ((nI 0, M) : Int32 × Mem).1 = 0 from rfl), as_o4 A, gd1n, k1, bs1n]
  by_cases h115 : chL l b = 115
  · have hv : ¬ v2 = 0 := by
      apply hs
      rcases Nat.lt_or_ge b l.length with hb | hb
      · rw [chL_lt hb] at h115
        have := lk.2 _ (List.getElem_mem hb)
        rw [List.getElem?_eq_getElem hb, n_inj (b := 115) (by omega) (by omega) h115]
      · rw [chL_ge hb] at h115
        exact absurd h115 (by decide)
    rw [if_pos h115, if_neg hv]
    exact e87
  · rw [if_neg h115]
    exact e87
end RF3
