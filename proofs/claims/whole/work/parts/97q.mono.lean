/-! READING: items end behind their start -/
section MO
variable {l : List Nat}
theorem skp_ge (a : Nat) : a ≤ skp l a := by
  have key : ∀ d a, l.length ≤ a + d → a ≤ skp l a := by
    intro d
    induction d with
    | zero =>
      intro a h
      have e0 : l[a]? = none := List.getElem?_eq_none (by omega)
      rw [skp_F (by rw [e0]; exact fun h => (by cases h))]
      exact Nat.le_refl _
    | succ d ih =>
      intro a h
      by_cases e : l[a]? = some 32
      · rw [skp_T e]
        have := ih (a + 1) (by omega)
        omega
      · rw [skp_F e]
        exact Nat.le_refl _
  exact key l.length a (by omega)
theorem it_mono {i : Nat} {lo hi : Nat → Nat} : ∀ {n a m p : Nat} {f f' : Nat → Nat}, itL i lo hi l n a m f = .inl (p, f') → a ≤ p := by
  intro n
  induction n with
  | zero =>
    intro a m p f f' h
    rw [itL] at h
    cases h
  | succ n ih =>
    intro a m p f f' h
    have h0 := skp_ge (l := l) a
    rw [itL_s] at h
    split at h
    · have e := congrArg Prod.fst (Sum.inl.inj h)
      simp only at e
      omega
    · split at h
      · cases h
      · split at h
        · next j _ _ _ x p' hn =>
          have h1 := ih h
          have h2 := (nm_rg hn).2.2
          have h3 := skp_ge (l := l) (skp l a + 1)
          omega
        · cases h
end MO
