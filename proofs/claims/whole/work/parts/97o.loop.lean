/-! READING: the class's loop over clauses -/
section RF2
variable {M M1 M2 : Mem} {l : List Nat} {a p : Nat} {w : Int32}
def FA (M M' : Mem) : Prop := M'.2 = M.2 ∧ ∀ x, x ≠ 4 → x ≠ 8 → x ≠ 9 → x ≠ 10 → giM M' x = giM M x
theorem FA_tr (h : FA M M1) (g : FA M1 M2) : FA M M2 := ⟨g.1.trans h.1, fun x h1 h2 h3 h4 => (g.2 x h1 h2 h3 h4).trans (h.2 x h1 h2 h3 h4)⟩
theorem FA_F4 (F : Fr M M1 4 4) : FA M M1 := ⟨F.1, fun x h1 _ _ _ => F.2 x (by omega)⟩
theorem FA_FI9 {o m : Nat} (F : FI 9 o m M M1) : FA M M1 := ⟨F.1, fun x h1 _ h3 _ => F.2.1 x h1 h3⟩
theorem FA_FI10 {o m : Nat} (F : FI 10 o m M M1) : FA M M1 := ⟨F.1, fun x h1 _ _ h4 => F.2.1 x h1 h4⟩
theorem SHP_FA (A : SHP M) (F : FA M M1) : SHP M1 := SHP_2 A F.1 (fun x h1 _ => F.2 x (by omega) (by omega) (by omega) (by omega))
/-- what has been read so far -/
def RG (M : Mem) (f : Nat → Nat) (k : Nat) (z : Nat → Nat) : Prop := k ≤ 6 ∧ giM M 8 2 = nI k ∧ (∀ j, j < 5 → giM M 9 (0 + j) = nI (f j)) ∧ ∀ j, j < k → giM M 10 j = nI (z j)
theorem RG_cg {f z : Nat → Nat} {k : Nat} (h : RG M f k z) (e8 : giM M1 8 = giM M 8) (e9 : giM M1 9 = giM M 9) (e10 : giM M1 10 = giM M 10) : RG M1 f k z := by
  unfold RG
  rw [e8, e9, e10]
  exact h
theorem RG_F4 {f z : Nat → Nat} {k : Nat} (h : RG M f k z) (F : Fr M M1 4 4) : RG M1 f k z := RG_cg h (F.2 8 (by omega)) (F.2 9 (by omega)) (F.2 10 (by omega))
def outA : (Mem ⊕ Mem) → Mem := Sum.elim id id
theorem rf_w {K : Nat → Nat → Int32 → Int32 → Mem → Option (Mem ⊕ Mem)} {v2 v3 : Int32} {e : Nat} (A : SHP M) (he : e ≤ 240) (h : RdC M l p (nI e)) : BU_readFrom_30 K 8 4 v2 v3 M = some (.inr M) := by
  have w1 := wr1 A (by omega) h
  unfold BU_readFrom_30
  by_cases h3 : 240 ≤ v3
  · rw [if_pos h3]
  · rw [if_neg h3, as_o4 A, gd1n, w1, bs1n, if_neg (show ¬ ((nI 1, M) : Int32 × Mem).1 = 0 from (show ¬ nI 1 = 0 by decide))]
end RF2
