/-! READING: where blanks end there is none -/
section SK
variable {l : List Nat}
theorem skp_no (a : Nat) : l[skp l a]? ≠ some 32 := by
  have key : ∀ d a, l.length ≤ a + d → l[skp l a]? ≠ some 32 := by
    intro d
    induction d with
    | zero =>
      intro a h
      have e0 : l[a]? = none := List.getElem?_eq_none (by omega)
      have e : l[a]? ≠ some 32 := by rw [e0]; exact fun h => (by cases h)
      rw [skp_F e]
      exact e
    | succ d ih =>
      intro a h
      by_cases e : l[a]? = some 32
      · rw [skp_T e]
        exact ih (a + 1) (by omega)
      · rw [skp_F e]
        exact e
  exact key l.length a (by omega)
end SK
