/-! READING: an arena's text, as a pure function -/
abbrev ArR : Type := (Nat × (Nat → Nat) × Nat × (Nat → Nat)) ⊕ Nat
def nxA (l : List Nat) (p : Nat) (f : Nat → Nat) (k : Nat) (z : Nat → Nat) (go : Nat → ArR) : ArR :=
  match l[skp l p]? with
  | none => .inl (skp l p, f, k, z)
  | some c => if c = 59 then go (skp l p + 1) else .inr (skp l p)
def rdL (l : List Nat) : Nat → Nat → Bool → (Nat → Nat) → Nat → (Nat → Nat) → ArR
  | 0, a, _, _, _, _ => .inr (skp l a)
  | n + 1, a, sd, f, k, z =>
    if l[skp l a]? = some 115 ∧ sd = false then
      match itL 0 loS hiS l 6 (skp l a + 1) 0 usS with
      | .inl (p, f') => nxA l p f' k z (fun b => rdL l n b true f' k z)
      | .inr (.inl p) => .inr p
      | .inr (.inr e) => .inr e
    else if l[skp l a]? = some 99 ∧ k < 6 then
      match itL 1 (fun _ => 1) (fun _ => 40) l 2 (skp l a + 1) 0 (fun _ => 1) with
      | .inl (p, f') => nxA l p f (k + 1) (ud z k (f' 0)) (fun b => rdL l n b sd f (k + 1) (ud z k (f' 0)))
      | .inr (.inl p) => .inr p
      | .inr (.inr e) => .inr e
    else .inr (skp l a)
section AR
variable {l : List Nat} {a : Nat}
theorem nm_rg {lo hi x p : Nat} (h : nmF l a lo hi = .inl (x, p)) : lo ≤ x ∧ x ≤ hi ∧ skp l a < p := by
  unfold nmF at h
  split at h
  · cases h
  · split at h
    · split at h
      · next h1 =>
        have e := Sum.inl.inj h
        have e1 := congrArg Prod.fst e
        have e2 := congrArg Prod.snd e
        simp only at e1 e2
        omega
      · cases h
    · split at h
      · cases h
      · split at h
        · next h1 =>
          have e := Sum.inl.inj h
          have e1 := congrArg Prod.fst e
          have e2 := congrArg Prod.snd e
          simp only at e1 e2
          omega
        · cases h
theorem it_rg {i : Nat} {lo hi : Nat → Nat} : ∀ {n a m p : Nat} {f f' : Nat → Nat}, itL i lo hi l n a m f = .inl (p, f') → (∀ j, lo j ≤ f j ∧ f j ≤ hi j) → ∀ j, lo j ≤ f' j ∧ f' j ≤ hi j := by
  intro n
  induction n with
  | zero =>
    intro a m p f f' h
    rw [itL] at h
    cases h
  | succ n ih =>
    intro a m p f f' h hf
    rw [itL_s] at h
    split at h
    · have e := congrArg Prod.snd (Sum.inl.inj h)
      simp only at e
      rw [← e]
      exact hf
    · split at h
      · cases h
      · split at h
        · next j _ _ _ x p' hn =>
          refine ih h (fun j' => ?_)
          rw [ud_at]
          by_cases e : j' = j
          · rw [if_pos e, e]
            have := nm_rg hn
            omega
          · rw [if_neg e]
            exact hf j'
        · cases h
end AR
