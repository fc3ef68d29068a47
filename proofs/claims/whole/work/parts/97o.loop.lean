/-! READING: the class's loop over clauses -/
section RF2
variable {M M1 M2 : Mem} {l : List Nat} {a p : Nat} {w : Int32}
def FA (M M' : Mem) : Prop := M'.2 = M.2 ∧ ∀ x, x ≠ 4 → x ≠ 8 → x ≠ 9 → x ≠ 10 → giM M' x = giM M x
theorem FA_tr (h : FA M M1) (g : FA M1 M2) : FA M M2 := ⟨g.1.trans h.1, fun x h1 h2 h3 h4 => (g.2 x h1 h2 h3 h4).trans (h.2 x h1 h2 h3 h4)⟩
theorem FA_F4 (F : Fr M M1 4 4) : FA M M1 := ⟨F.1, fun x h1 _ _ _ => F.2 x (by omega)⟩
theorem FA_FI9 {o m : Nat} (F : FI 9 o m M M1) : FA M M1 := ⟨F.1, fun x h1 _ h3 _ => F.2.1 x h1 h3⟩
theorem FA_FI10 {o m : Nat} (F : FI 10 o m M M1) : FA M M1 := ⟨F.1, fun x h1 _ _ h4 => F.2.1 x h1 h4⟩
theorem SHP_FA (A : SHP M) (F : FA M M1) : SHP M1 := SHP_2 A F.1 (fun x h1 _ => F.2 x (by omega) (by omega) (by omega) (by omega))
/-- what has been read so far -/
def RG (M : Mem) (f : Nat → Nat) (k : Nat) (z : Nat → Nat) : Prop := k ≤ 6 ∧ giM M 8 2 = nI k ∧ (∀ j, j < 5 → giM M 9 (0 + j) = nI (f j)) ∧ ∀ j, j < k → giM M 10 j = nI (z j)
theorem RG_cg {f z : Nat → Nat} {k : Nat} (h : RG M f k z) (e8 : giM M1 8 = giM M 8) (e9 : giM M1 9 = giM M 9) (e10 : giM M1 10 = giM M 10) : RG M1 f k z := by
  unfold RG
  rw [e8, e9, e10]
  exact h
theorem RG_F4 {f z : Nat → Nat} {k : Nat} (h : RG M f k z) (F : Fr M M1 4 4) : RG M1 f k z := RG_cg h (F.2 8 (by omega)) (F.2 9 (by omega)) (F.2 10 (by omega))
def outA : (Mem ⊕ Mem) → Mem := Sum.elim id id
theorem rf_w {K : Nat → Nat → Int32 → Int32 → Mem → Option (Mem ⊕ Mem)} {v2 v3 : Int32} {e : Nat} (A : SHP M) (he : e ≤ 240) (h : RdC M l p (nI e)) : BU_readFrom_30 K 8 4 v2 v3 M = some (.inr M) := by
  have w1 := wr1 A (by omega) h
  unfold BU_readFrom_30
  by_cases h3 : 240 ≤ v3
  · rw [if_pos h3]
  · rw [if_neg h3, as_o4 A, gd1n, w1, bs1n, if_neg (show ¬ ((nI 1, M) : Int32 × Mem).1 = 0 from (show ¬ nI 1 = 0 by decide))]
/-- a clause s -/
theorem rf_s {K : Nat → Nat → Int32 → Int32 → Mem → Option (Mem ⊕ Mem)} {v3 : Int32} {k : Nat} {z : Nat → Nat} (lk : LOK l) (A : SHP M) (h3 : ¬ 240 ≤ v3) (h : RdC M l a mI) (ha : a ≤ l.length) (g : RG M usS k z) (hc : l[skp l a]? = some 115) : ∃ M', BU_readFrom_30 K 8 4 (nI 0) v3 M = BU_readFrom_156 K 8 4 (nI 1) v3 M' ∧ FA M M' ∧ ((∃ p f', itL 0 loS hiS l 6 (skp l a + 1) 0 usS = .inl (p, f') ∧ RdC M' l p mI ∧ p ≤ l.length ∧ RG M' f' k z) ∨ (∃ p p', itL 0 loS hiS l 6 (skp l a + 1) 0 usS = .inr (.inl p) ∧ p ≤ 240 ∧ RdC M' l p' (nI p)) ∨ ∃ e p', itL 0 loS hiS l 6 (skp l a + 1) 0 usS = .inr (.inr e) ∧ e ≤ 240 ∧ RdC M' l p' (nI e)) := by
  have w0 := wr0 A h
  obtain ⟨M1, k1, F1, r1, i1, i2, i3⟩ := pek_ok lk A h ha
  have A1 := SHP_Fr A F1 (by omega)
  generalize skp l a = b at k1 r1 i1 i2 i3 hc
  have hb : b < l.length := by
    rcases Nat.lt_or_ge b l.length with h1 | h1
    · exact h1
    · rw [List.getElem?_eq_none h1] at hc
      cases hc
  have e : chL l b = nI 115 := by
    unfold chL
    rw [hc]
    rfl
  rw [e] at k1
  have p1 := pass_ok lk A1 r1 hb
  have r2 := RdC_1 r1 (b + 1)
  have A2 := SHP_4 (i := 1) (z := nI (b + 1)) A1
  have F2 : Fr M (siM M1 4 1 (nI (b + 1))) 4 4 := Fr_tr F1 F4
  generalize siM M1 4 1 (nI (b + 1)) = M2 at p1 r2 A2 F2
  have g2 := RG_F4 g F2
  obtain ⟨M3, k3, F3, hh⟩ := cItS lk A2 r2 (by omega) g2.2.2.1
  have k3 : fU_readItems 4 6001 5001 5002 9 0 M2 = some M3 := k3
  have e8 : giM M3 8 = giM M2 8 := F3.2.1 8 (by omega) (by omega)
  have e10 : giM M3 10 = giM M2 10 := F3.2.1 10 (by omega) (by omega)
  refine ⟨M3, ?_, FA_tr (FA_F4 F2) (FA_FI9 F3), ?_⟩
  · unfold BU_readFrom_30
    rw [if_neg h3, as_o4 A, gd1n, w0, bs1n, if_pos (show ((nI 0, M) : Int32 × Mem).1 = 0 from rfl), as_o4 A, gd1n, k1, bs1n, if_pos (show ((nI 115, M1) : Int32 × Mem).1 = 115 from rfl), if_pos (show nI 0 = 0 from rfl), as_o4 A1, gd1n, p1, bs1n, as_o8 A2, gd1n, as_g8_0 A2, d_nz (show 0 < 9 by omega), gd1n, k3, bs1n]
    rfl
  · rcases hh with ⟨p, f', q1, q2, q3, q4⟩ | q | q
    · refine Or.inl ⟨p, f', q1, q2, q3, g2.1, by rw [e8]; exact g2.2.1, q4, fun j hj => by rw [e10]; exact g2.2.2.2 j hj⟩
    · exact Or.inr (Or.inl q)
    · exact Or.inr (Or.inr q)
/-- a clause c -/
theorem rf_c {K : Nat → Nat → Int32 → Int32 → Mem → Option (Mem ⊕ Mem)} {v2 v3 : Int32} {k : Nat} {f z : Nat → Nat} (lk : LOK l) (A : SHP M) (h3 : ¬ 240 ≤ v3) (h : RdC M l a mI) (ha : a ≤ l.length) (g : RG M f k z) (hk : k < 6) (hc : l[skp l a]? = some 99) : ∃ M', BU_readFrom_30 K 8 4 v2 v3 M = BU_readFrom_156 K 8 4 v2 v3 M' ∧ FA M M' ∧ ((∃ p f', itL 1 (fun _ => 1) (fun _ => 40) l 2 (skp l a + 1) 0 (fun _ => 1) = .inl (p, f') ∧ RdC M' l p mI ∧ p ≤ l.length ∧ RG M' f (k + 1) (ud z k (f' 0))) ∨ (∃ p p', itL 1 (fun _ => 1) (fun _ => 40) l 2 (skp l a + 1) 0 (fun _ => 1) = .inr (.inl p) ∧ p ≤ 240 ∧ RdC M' l p' (nI p)) ∨ ∃ e p', itL 1 (fun _ => 1) (fun _ => 40) l 2 (skp l a + 1) 0 (fun _ => 1) = .inr (.inr e) ∧ e ≤ 240 ∧ RdC M' l p' (nI e)) := by
  have w0 := wr0 A h
  obtain ⟨M1, k1, F1, r1, i1, i2, i3⟩ := pek_ok lk A h ha
  have A1 := SHP_Fr A F1 (by omega)
  generalize skp l a = b at k1 r1 i1 i2 i3 hc
  have hb : b < l.length := by
    rcases Nat.lt_or_ge b l.length with h1 | h1
    · exact h1
    · rw [List.getElem?_eq_none h1] at hc
      cases hc
  have e : chL l b = nI 99 := by
    unfold chL
    rw [hc]
    rfl
  rw [e] at k1
  have p1 := pass_ok lk A1 r1 hb
  have g1 := (RG_F4 g F1).2.1
  have r2 := RdC_1 r1 (b + 1)
  have A2 := SHP_4 (i := 1) (z := nI (b + 1)) A1
  have F2 : Fr M (siM M1 4 1 (nI (b + 1))) 4 4 := Fr_tr F1 F4
  generalize siM M1 4 1 (nI (b + 1)) = M2 at p1 r2 A2 F2
  have g2 := RG_F4 g F2
  have t2 := g2.2.1
  have X : FA M2 (siM (siM M2 10 k (nI 1)) 8 2 (nI (k + 1))) := ⟨rfl, fun x _ h2 _ h4 => by rw [giM_un h2, giM_un h4]⟩
  have A3 := SHP_FA A2 X
  have r3 : RdC (siM (siM M2 10 k (nI 1)) 8 2 (nI (k + 1))) l (b + 1) mI := ⟨TPc_cg r2.1 (X.2 2 (by omega) (by omega) (by omega) (by omega)) (X.2 3 (by omega) (by omega) (by omega) (by omega)), by rw [giM_un (by omega), giM_un (by omega)]; exact r2.2.1, by rw [giM_un (by omega), giM_un (by omega)]; exact r2.2.2⟩
  have y1 : giM (siM (siM M2 10 k (nI 1)) 8 2 (nI (k + 1))) 10 k = nI 1 := by rw [giM_un (by omega), giM_ud, ud_s]
  have y2 : giM (siM (siM M2 10 k (nI 1)) 8 2 (nI (k + 1))) 8 2 = nI (k + 1) := by rw [giM_ud, ud_s]
  have y3 : giM (siM (siM M2 10 k (nI 1)) 8 2 (nI (k + 1))) 9 = giM M2 9 := by rw [giM_un (by omega), giM_un (by omega)]
  have y4 : ∀ j, j < k → giM (siM (siM M2 10 k (nI 1)) 8 2 (nI (k + 1))) 10 j = giM M2 10 j := fun j hj => by rw [giM_un (by omega), giM_ud, ud_n _ _ (by omega)]
  have y5 : giM (siM M2 10 k (nI 1)) 8 2 = nI k := by rw [giM_un (by omega)]; exact t2
  generalize hM3 : siM (siM M2 10 k (nI 1)) 8 2 (nI (k + 1)) = M3 at X A3 r3 y1 y2 y3 y4
  obtain ⟨M4, k4, F4', hh⟩ := cItC (o := k) lk A3 r3 (by omega) hk y1
  have e8 : giM M4 8 = giM M3 8 := F4'.2.1 8 (by omega) (by omega)
  have e9 : giM M4 9 = giM M3 9 := F4'.2.1 9 (by omega) (by omega)
  have l1 : (1 : Int32) = nI 1 := rfl
  have hw := as_w10 A2 hk
  refine ⟨M4, ?_, FA_tr (FA_F4 F2) (FA_tr X (FA_FI10 F4')), ?_⟩
  · unfold BU_readFrom_30
    rw [if_neg h3, as_o4 A, gd1n, w0, bs1n, if_pos (show ((nI 0, M) : Int32 × Mem).1 = 0 from rfl), as_o4 A, gd1n, k1, bs1n, if_neg (show ¬ ((nI 99, M1) : Int32 × Mem).1 = 115 from (show ¬ nI 99 = 115 by decide))]
    show BU_readFrom_87 K 8 4 v2 v3 (nI 99) M1 = _
    unfold BU_readFrom_87
    rw [if_pos (show nI 99 = 99 from rfl), as_o8 A1, gd1n, g1, if_neg (show ¬ (6 : Int32) ≤ nI k from of_eq_false (n_leF (a := 6) (b := k) (by omega) (by omega))), as_o4 A1, gd1n, p1, bs1n, as_o8 A2, gd1n, as_g8_1 A2, d_nz (show 0 < 10 by omega), gd1n, t2, hw, gd1n, n_cl (by omega), l1, y5, n_add, hM3, y2, n_sub (by omega), Nat.add_sub_cancel, k4, bs1n]
  · rcases hh with ⟨p, f', q1, q2, q3, q4⟩ | q | q
    · refine Or.inl ⟨p, f', q1, q2, q3, by omega, by rw [e8]; exact y2, fun j hj => by rw [e9, y3]; exact g2.2.2.1 j hj, fun j hj => ?_⟩
      rw [ud_at]
      by_cases ej : j = k
      · rw [if_pos ej, ej]; exact q4
      · rw [if_neg ej, F4'.2.2 j (by omega), y4 j (by omega)]
        exact g2.2.2.2 j (by omega)
    · exact Or.inr (Or.inl q)
    · exact Or.inr (Or.inr q)
end RF2
