/-! WAYS: as a pure function; two scripts' gots beside each other -/
def CX (n : Nat) (g : Nat → GoT) (m : Nat) (k : Nat → GoT) : Prop := ∀ r r', r < n → r' < m → (g r).2.2.2 = true → (k r').2.2.2 = true → (g r).1 ≠ (k r').1
section CX
variable {ρ : Rul} {β n m : Nat} {S : HSt} {g k : Nat → GoT}
theorem CX_sym (h : CX n g m k) : CX m k n g := fun r r' h1 h2 h3 h4 e => h r' r h2 h1 h4 h3 e.symm
theorem stp_x {r : Bool} {t : StT} {x : RSt} (hR : RuOK ρ) (V : OKS ρ β S) (q : GOK ρ S n g) (q2 : GOK ρ S m k) (cx : CX n g m k) (h5 : t.1 < 5) (h : stp ρ r t (S, n, 0, g) = some x) : GOK ρ x.1 m k ∧ CX x.2.1 x.2.2.2 m k ∧ x.2.2.1 = 0 := by
  have hb := ru_b hR
  unfold stp at h
  split at h
  · unfold sGet at h
    split at h
    · next hy =>
      split at h
      · cases h
      · next c hk =>
        have hc := kcF_lt hk
        split at h
        · cases h
        · next p hp =>
          obtain rfl := Option.some.inj h
          have hp : pgF ρ t.2.1 c S = some p := hp
          have pc := (pgF_cases hR V.1 hy.1 hc hp).1
          have hbk := aBlk_lt hR V.1 hy.1 hc hp
          obtain ⟨k1, k2, k3⟩ := KH_get hR V.1 hy.1 hc hp
          refine ⟨GOK_KH hR (KH_tr k1 nt_KH) q2, fun r1 r2 h1 h2 g1 g2 => ?_, rfl⟩
          have h1 : r1 < n + 1 := h1
          have g1 : (ud g n (100 * p + aBlk ρ t.2.1 c p S, t.2.1, 0, true) r1).2.2.2 = true := g1
          show (ud g n (100 * p + aBlk ρ t.2.1 c p S, t.2.1, 0, true) r1).1 ≠ (k r2).1
          rw [ud_at] at g1 ⊢
          by_cases e : r1 = n
          · rw [if_pos e]
            intro e2
            have hB := (q2.1 r2 h2).2.2 g2
            have e2 : 100 * p + aBlk ρ t.2.1 c p S = (k r2).1 := e2
            rw [← e2] at hB
            unfold HB at hB
            rw [show (100 * p + aBlk ρ t.2.1 c p S) / 100 = p by omega, show (100 * p + aBlk ρ t.2.1 c p S) % 100 = aBlk ρ t.2.1 c p S by omega] at hB
            exact k3 ⟨hB.2.1, hB.2.2.2⟩
          · rw [if_neg e] at g1 ⊢
            exact cx r1 r2 (by omega) h2 g1 g2
    · cases h
  · split at h
    · unfold sFree at h
      split at h
      · next hy =>
        obtain rfl := Option.some.inj h
        have hz : t.2.2 < n := hy.2.1
        have hs : (g t.2.2).2.2.2 = true := hy.2.2
        have hB := (q.1 _ hz).2.2 hs
        refine ⟨⟨fun r1 h1 => ⟨(q2.1 r1 h1).1, (q2.1 r1 h1).2.1, fun hh => HB_free hR V hy.1.1 hB ((q2.1 r1 h1).2.2 hh) (fun e => cx t.2.2 r1 hz h1 hs hh e.symm)⟩, q2.2⟩, fun r1 r2 h1 h2 g1 g2 => ?_, rfl⟩
        have h1 : r1 < n := h1
        have g1 : (ud g t.2.2 ((g t.2.2).1, (g t.2.2).2.1, (g t.2.2).2.2.1, false) r1).2.2.2 = true := g1
        show (ud g t.2.2 ((g t.2.2).1, (g t.2.2).2.1, (g t.2.2).2.2.1, false) r1).1 ≠ (k r2).1
        rw [ud_at] at g1 ⊢
        by_cases e : r1 = t.2.2
        · rw [if_pos e] at g1; cases g1
        · rw [if_neg e] at g1 ⊢
          exact cx r1 r2 h1 h2 g1 g2
      · cases h
    · split at h
      · split at h
        · next hy =>
          obtain rfl := Option.some.inj h
          exact ⟨GOK_KH hR (KH_turn hR V.1 hy) q2, cx, rfl⟩
        · cases h
      · split at h
        · split at h
          · next hy =>
            obtain rfl := Option.some.inj h
            exact ⟨GOK_KH hR (KH_tick hR V.1 hy.1) q2, cx, rfl⟩
          · cases h
        · split at h
          · split at h
            · next hy =>
              obtain rfl := Option.some.inj h
              exact ⟨GOK_KH hR (KH_homes hR V.1 hy.1) q2, cx, rfl⟩
            · cases h
          · omega
end CX
/-- in how many ways a steps and b steps can be mixed, as both sides reckon it -/
def wNk (a b : Nat) : Nat → Nat → Nat → Nat
  | 0, w, _ => w
  | d + 1, w, k => wNk a b d (w * (a + k) / k) (k + 1)
def wN (a b : Nat) : Nat := wNk a b b 1 1
theorem wN_tab : ∀ a, a < 7 → ∀ b, b < 7 → (0 < a → 0 < b → wN a b = wN (a - 1) b + wN a (b - 1)) ∧ (a = 0 → wN a b = 1) ∧ (b = 0 → wN a b = 1) ∧ wN a b < 1000 := by decide +kernel
def pgU (ρ : Rul) (S : HSt) : Nat := sm (us1 S) (rP ρ)
/-- the ends of all ways: pages in use, whole (1) or not (0), how many ways end so -/
def wyL (ρ : Rul) (sa sb : Nat → StT) (la lb : Nat) : Nat → Nat → Nat → HSt → Nat → (Nat → GoT) → Nat → (Nat → GoT) → List (Nat × Nat × Nat)
  | 0, _, _, _, _, _, _, _ => []
  | f + 1, i, j, Y, n, g, m, k =>
    if la ≤ i ∧ lb ≤ j then [(pgU ρ Y, 1, 1)] else
    (if i < la then (match stp ρ false (sa i) (Y, n, 0, g) with
      | none => [(pgU ρ Y, 0, wN (la - i - 1) (lb - j))]
      | some x => wyL ρ sa sb la lb f (i + 1) j x.1 x.2.1 x.2.2.2 m k) else []) ++
    (if j < lb then (match stp ρ false (sb j) (Y, m, 0, k) with
      | none => [(pgU ρ Y, 0, wN (la - i) (lb - j - 1))]
      | some x => wyL ρ sa sb la lb f i (j + 1) x.1 n g x.2.1 x.2.2.2) else [])
def sA (l : List (Nat × Nat × Nat)) : Nat := (l.map (fun x => x.2.2)).sum
def sW (l : List (Nat × Nat × Nat)) : Nat := (l.map (fun x => x.2.1)).sum
theorem wy_sum {ρ : Rul} {sa sb : Nat → StT} {la lb : Nat} (ha : la < 7) (hb : lb < 7) : ∀ f i j Y n g m k, i ≤ la → j ≤ lb → (la - i) + (lb - j) < f → sA (wyL ρ sa sb la lb f i j Y n g m k) = wN (la - i) (lb - j) := by
  have app : ∀ l l', sA (l ++ l') = sA l + sA l' := fun l l' => by
    unfold sA
    rw [List.map_append, List.sum_append]
  have one : ∀ u w c, sA [(u, w, c)] = c := fun u w c => by
    unfold sA
    simp
  have nil : sA [] = 0 := rfl
  intro f
  induction f with
  | zero => intro i j Y n g m k hi hj hf; omega
  | succ f ih =>
    intro i j Y n g m k hi hj hf
    have tb := wN_tab (la - i) (by omega) (lb - j) (by omega)
    unfold wyL
    by_cases he : la ≤ i ∧ lb ≤ j
    · rw [if_pos he, one, tb.2.1 (by omega)]
    · rw [if_neg he, app]
      have h1 : i < la → sA (match stp ρ false (sa i) (Y, n, 0, g) with
          | none => [(pgU ρ Y, 0, wN (la - i - 1) (lb - j))]
          | some x => wyL ρ sa sb la lb f (i + 1) j x.1 x.2.1 x.2.2.2 m k) = wN (la - i - 1) (lb - j) := fun h => by
        cases stp ρ false (sa i) (Y, n, 0, g) with
        | none => exact one _ _ _
        | some x =>
          show sA (wyL ρ sa sb la lb f (i + 1) j x.1 x.2.1 x.2.2.2 m k) = _
          rw [ih (i + 1) j _ _ _ _ _ (by omega) hj (by omega), show la - (i + 1) = la - i - 1 by omega]
      have h2 : j < lb → sA (match stp ρ false (sb j) (Y, m, 0, k) with
          | none => [(pgU ρ Y, 0, wN (la - i) (lb - j - 1))]
          | some x => wyL ρ sa sb la lb f i (j + 1) x.1 n g x.2.1 x.2.2.2) = wN (la - i) (lb - j - 1) := fun h => by
        cases stp ρ false (sb j) (Y, m, 0, k) with
        | none => exact one _ _ _
        | some x =>
          show sA (wyL ρ sa sb la lb f i (j + 1) x.1 n g x.2.1 x.2.2.2) = _
          rw [ih i (j + 1) _ _ _ _ _ hi (by omega) (by omega), show lb - (j + 1) = lb - j - 1 by omega]
      by_cases ci : i < la
      · rw [if_pos ci, h1 ci]
        by_cases cj : j < lb
        · rw [if_pos cj, h2 cj, tb.1 (by omega) (by omega)]
        · rw [if_neg cj, nil, Nat.add_zero, tb.2.2.1 (by omega), (wN_tab (la - i - 1) (by omega) (lb - j) (by omega)).2.2.1 (by omega)]
      · rw [if_neg ci, nil, Nat.zero_add]
        by_cases cj : j < lb
        · rw [if_pos cj, h2 cj, tb.2.1 (by omega), (wN_tab (la - i) (by omega) (lb - j - 1) (by omega)).2.1 (by omega)]
        · omega
theorem wy_ne {ρ : Rul} {sa sb : Nat → StT} {la lb : Nat} (ha : la < 7) (hb : lb < 7) {f i j : Nat} {Y : HSt} {n m : Nat} {g k : Nat → GoT} (hi : i ≤ la) (hj : j ≤ lb) (hf : (la - i) + (lb - j) < f) : wyL ρ sa sb la lb f i j Y n g m k ≠ [] := fun e => by
  have h := wy_sum (ρ := ρ) (sa := sa) (sb := sb) ha hb f i j Y n g m k hi hj hf
  rw [e] at h
  have h0 : wN (la - i) (lb - j) = 0 := h.symm
  have pos : ∀ a, a < 7 → ∀ b, b < 7 → 0 < wN a b := by decide +kernel
  have := pos (la - i) (by omega) (lb - j) (by omega)
  omega
