/-! READING: the class's loop over clauses answers rdL -/
section RL
variable {M M1 M2 : Mem} {l : List Nat} {a p : Nat} {w : Int32}
def RR (l : List Nat) (x : ArR) (M : Mem) : Prop := match x with
  | .inl (p, f, k, z) => RdC M l p mI ∧ p ≤ l.length ∧ l[p]? = none ∧ RG M f k z
  | .inr e => e ≤ 240 ∧ ∃ p', RdC M l p' (nI e)
def bI (b : Bool) : Int32 := if b then nI 1 else nI 0
theorem nxA_n {f z : Nat → Nat} {k : Nat} {go : Nat → ArR} (h : l[skp l p]? = none) : nxA l p f k z go = .inl (skp l p, f, k, z) := by
  unfold nxA
  rw [h]
theorem nxA_s {f z : Nat → Nat} {k : Nat} {go : Nat → ArR} (h : l[skp l p]? = some 59) : nxA l p f k z go = go (skp l p + 1) := by
  unfold nxA
  rw [h]
  exact if_pos rfl
theorem nxA_f {f z : Nat → Nat} {k c : Nat} {go : Nat → ArR} (h : l[skp l p]? = some c) (hc : c ≠ 59) : nxA l p f k z go = .inr (skp l p) := by
  unfold nxA
  rw [h]
  exact if_neg hc
theorem rdL_s (n a : Nat) (sd : Bool) (f : Nat → Nat) (k : Nat) (z : Nat → Nat) : rdL l (n + 1) a sd f k z = if l[skp l a]? = some 115 ∧ sd = false then
      match itL 0 loS hiS l 6 (skp l a + 1) 0 usS with
      | .inl (p, f') => nxA l p f' k z (fun b => rdL l n b true f' k z)
      | .inr (.inl p) => .inr p
      | .inr (.inr e) => .inr e
    else if l[skp l a]? = some 99 ∧ k < 6 then
      match itL 1 (fun _ => 1) (fun _ => 40) l 2 (skp l a + 1) 0 (fun _ => 1) with
      | .inl (p, f') => nxA l p f (k + 1) (ud z k (f' 0)) (fun b => rdL l n b sd f (k + 1) (ud z k (f' 0)))
      | .inr (.inl p) => .inr p
      | .inr (.inr e) => .inr e
    else .inr (skp l a) := rfl
theorem FA_refl (M : Mem) : FA M M := ⟨rfl, fun _ _ _ _ _ => rfl⟩
theorem rf_after {g k : Nat} {f z : Nat → Nat} {v2 v3 : Int32} {go : Nat → ArR} (lk : LOK l) (A : SHP M) (h : RdC M l p mI) (hp : p ≤ l.length) (gg : RG M f k z) (ih : ∀ M2, SHP M2 → RdC M2 l (skp l p + 1) mI → skp l p + 1 ≤ l.length → RG M2 f k z → ∃ r, LU_readFrom_30 (g + 1) 8 4 v2 (v3 + 1) M2 = some r ∧ FA M2 (outA r) ∧ RR l (go (skp l p + 1)) (outA r)) : ∃ r, BU_readFrom_156 (LU_readFrom_30 (g + 1)) 8 4 v2 v3 M = some r ∧ FA M (outA r) ∧ RR l (nxA l p f k z go) (outA r) := by
  obtain ⟨M1, F1, hh⟩ := c156 (K := LU_readFrom_30 (g + 1)) (v2 := v2) (v3 := v3) lk A h hp
  have A1 := SHP_Fr A F1 (by omega)
  have g1 := RG_F4 gg F1
  rcases hh with ⟨h1, h2, h3⟩ | ⟨h1, h2, h3, h4⟩ | ⟨c, p', h1, hc, h2, h3, h4⟩
  · refine ⟨_, h2, FA_F4 F1, ?_⟩
    rw [nxA_n h1]
    exact ⟨h3, skp_le hp, h1, g1⟩
  · obtain ⟨r, k1, F2, q⟩ := ih M1 A1 h3 h4 g1
    refine ⟨r, h2.trans k1, FA_tr (FA_F4 F1) F2, ?_⟩
    rw [nxA_s h1]
    exact q
  · refine ⟨.inr M1, h2.trans (rf_w A1 h4 h3), FA_F4 F1, ?_⟩
    rw [nxA_f h1 hc]
    exact ⟨h4, p', h3⟩
theorem rf_loop (lk : LOK l) : ∀ n fu M a sd f k z v3, l.length < a + n → n < fu → SHP M → RdC M l a mI → a ≤ l.length → RG M f k z → (sd = false → f = usS) → 2 * v3 ≤ a → ∃ r, LU_readFrom_30 (fu + 1) 8 4 (bI sd) (nI v3) M = some r ∧ FA M (outA r) ∧ RR l (rdL l n a sd f k z) (outA r) := by
  intro n
  have ll := lk.1
  induction n with
  | zero => intro fu M a sd f k z v3 h1 h2 A h ha; omega
  | succ n ih =>
    intro fu M a sd f k z v3 h1 h2 A h ha gg hf hv
    obtain ⟨g, rfl⟩ : ∃ g, fu = g + 1 := ⟨fu - 1, by omega⟩
    have h3 : ¬ (240 : Int32) ≤ nI v3 := of_eq_false (n_leF (a := 240) (b := v3) (by omega) (by omega))
    have hsk := skp_ge (l := l) a
    have e1 : nI v3 + 1 = nI (v3 + 1) := by rw [l_1, n_add]
    show ∃ r, BU_readFrom_30 (LU_readFrom_30 (g + 1)) 8 4 (bI sd) (nI v3) M = some r ∧ _
    rw [rdL_s]
    by_cases hs : l[skp l a]? = some 115 ∧ sd = false
    · rw [if_pos hs]
      obtain ⟨hs, rfl⟩ := hs
      obtain rfl := hf rfl
      obtain ⟨M1, k1, F1, hh⟩ := rf_s (K := LU_readFrom_30 (g + 1)) lk A h3 h ha gg hs
      have A1 := SHP_FA A F1
      show ∃ r, BU_readFrom_30 (LU_readFrom_30 (g + 1)) 8 4 (nI 0) (nI v3) M = some r ∧ _
      rw [k1]
      rcases hh with ⟨p, f', q1, q2, q3, q4⟩ | ⟨p, p', q1, q2, q3⟩ | ⟨e, p', q1, q2, q3⟩
      · rw [q1]
        have mo := it_mono q1
        have hsk2 := skp_ge (l := l) p
        obtain ⟨r, k2, F2, q⟩ := rf_after (v2 := nI 1) (v3 := nI v3) (go := fun b => rdL l n b true f' k z) (g := g) lk A1 q2 q3 q4 (fun M2 A2 r2 i2 g2 => by
          rw [e1]
          exact ih g M2 (skp l p + 1) true f' k z (v3 + 1) (by omega) (by omega) A2 r2 i2 g2 (fun h => by cases h) (by omega))
        exact ⟨r, k2, FA_tr F1 F2, q⟩
      · rw [q1]
        exact ⟨_, c156w A1 q2 q3, F1, q2, p', q3⟩
      · rw [q1]
        exact ⟨_, c156w A1 q2 q3, F1, q2, p', q3⟩
    · rw [if_neg hs]
      by_cases hc : l[skp l a]? = some 99 ∧ k < 6
      · rw [if_pos hc]
        obtain ⟨M1, k1, F1, hh⟩ := rf_c (K := LU_readFrom_30 (g + 1)) (v2 := bI sd) lk A h3 h ha gg hc.2 hc.1
        have A1 := SHP_FA A F1
        rw [k1]
        rcases hh with ⟨p, f', q1, q2, q3, q4⟩ | ⟨p, p', q1, q2, q3⟩ | ⟨e, p', q1, q2, q3⟩
        · rw [q1]
          have mo := it_mono q1
          have hsk2 := skp_ge (l := l) p
          obtain ⟨r, k2, F2, q⟩ := rf_after (v2 := bI sd) (v3 := nI v3) (go := fun b => rdL l n b sd f (k + 1) (ud z k (f' 0))) (g := g) lk A1 q2 q3 q4 (fun M2 A2 r2 i2 g2 => by
            rw [e1]
            exact ih g M2 (skp l p + 1) sd f (k + 1) (ud z k (f' 0)) (v3 + 1) (by omega) (by omega) A2 r2 i2 g2 hf (by omega))
          exact ⟨r, k2, FA_tr F1 F2, q⟩
        · rw [q1]
          exact ⟨_, c156w A1 q2 q3, F1, q2, p', q3⟩
        · rw [q1]
          exact ⟨_, c156w A1 q2 q3, F1, q2, p', q3⟩
      · rw [if_neg hc]
        obtain ⟨M', k1, F1, r1, i1⟩ := rf_no (K := LU_readFrom_30 (g + 1)) (v2 := bI sd) lk A h3 h ha gg (fun e => by
          cases sd with
          | false => exact absurd ⟨e, rfl⟩ hs
          | true => decide) (fun e => by
          have := gg.1
          rcases Nat.lt_or_ge k 6 with h6 | h6
          · exact absurd ⟨e, h6⟩ hc
          · omega)
        exact ⟨_, k1, F1, i1, _, r1⟩
/-- the values that are read are in range -/
theorem nx_inl {f z : Nat → Nat} {k : Nat} {go : Nat → ArR} {x : Nat × (Nat → Nat) × Nat × (Nat → Nat)} (h : nxA l p f k z go = .inl x) : x = (skp l p, f, k, z) ∨ go (skp l p + 1) = .inl x := by
  unfold nxA at h
  split at h
  · exact Or.inl (Sum.inl.inj h).symm
  · split at h
    · exact Or.inr h
    · cases h
theorem rd_rg : ∀ {n a sd k p k'} {f z f' z' : Nat → Nat}, rdL l n a sd f k z = .inl (p, f', k', z') → k ≤ 6 → (∀ j, loS j ≤ f j ∧ f j ≤ hiS j) → (∀ j, j < k → 1 ≤ z j ∧ z j ≤ 40) → k' ≤ 6 ∧ (∀ j, loS j ≤ f' j ∧ f' j ≤ hiS j) ∧ ∀ j, j < k' → 1 ≤ z' j ∧ z' j ≤ 40 := by
  intro n
  induction n with
  | zero =>
    intro a sd k p k' f z f' z' h
    cases h
  | succ n ih =>
    intro a sd k p k' f z f' z' h hk hf hz
    rw [rdL_s] at h
    have hus : ∀ j, loS j ≤ usS j ∧ usS j ≤ hiS j := fun j => by
      unfold loS usS hiS
      split <;> split <;> (try split) <;> (try split) <;> (try split) <;> omega
    split at h
    · split at h
      · next p1 f1 hit =>
        have r := it_rg hit hus
        rcases nx_inl h with e | e
        · obtain ⟨rfl, rfl, rfl, rfl⟩ : p = _ ∧ f' = _ ∧ k' = _ ∧ z' = _ := ⟨congrArg Prod.fst e, congrArg (fun x => x.2.1) e, congrArg (fun x => x.2.2.1) e, congrArg (fun x => x.2.2.2) e⟩
          exact ⟨hk, r, hz⟩
        · exact ih e hk r hz
      · cases h
      · cases h
    · split at h
      · next hc =>
        split at h
        · next p1 f1 hit =>
          have r := it_rg hit (fun _ => ⟨by omega, by omega⟩) 0
          have hz2 : ∀ j, j < k + 1 → 1 ≤ ud z k (f1 0) j ∧ ud z k (f1 0) j ≤ 40 := fun j hj => by
            rw [ud_at]
            by_cases e : j = k
            · rw [if_pos e]; exact r
            · rw [if_neg e]; exact hz j (by omega)
          rcases nx_inl h with e | e
          · obtain ⟨rfl, rfl, rfl, rfl⟩ : p = _ ∧ f' = _ ∧ k' = _ ∧ z' = _ := ⟨congrArg Prod.fst e, congrArg (fun x => x.2.1) e, congrArg (fun x => x.2.2.1) e, congrArg (fun x => x.2.2.2) e⟩
            exact ⟨Nat.succ_le_of_lt hc.2, hf, hz2⟩
          · exact ih e (by omega) hf hz2
        · cases h
        · cases h
      · cases h
end RL
