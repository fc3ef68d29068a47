/-! WAYS: may the scripts be mixed -/
def FEW (sg : Nat → StT) (st : Nat) : Prop := st ≤ 6 ∧ ∀ i, i < st → (sg i).1 < 5
section FW
variable {M : Mem} {sn sc st : Nat} {sg : Nat → StT}
theorem few0 (H : MS M) (hsn : sn ≤ 4) (h10 : giM M 1010 sn = nI st) (hst : st ≤ 24) : ∀ d k f, k + d = st → d < f → LM_isFew_19 f 1003 (nI sn) (nI 0) (nI k) M = some (nI 0, M) := by
  intro d
  induction d with
  | zero =>
    intro k f hk hf
    obtain ⟨g, rfl⟩ : ∃ g, f = g + 1 := ⟨f - 1, by omega⟩
    show BM_isFew_19 (LM_isFew_19 g) 1003 (nI sn) (nI 0) (nI k) M = _
    unfold BM_isFew_19
    rw [ms_ob H, gd1n, ms_g12 H, d_nz (by omega), gd1n, ms_r12 H (show sn < 5 by omega), gd1n, n_cl (by omega), h10, if_pos (of_eq_true (n_leT (by omega) (by omega)))]
    show gd (decide ((0 : Int32) = 0 ∨ (0 : Int32) = 1)) _ = _
    rw [bd00, gd1n]
  | succ d ih =>
    intro k f hk hf
    obtain ⟨g, rfl⟩ : ∃ g, f = g + 1 := ⟨f - 1, by omega⟩
    show BM_isFew_19 (LM_isFew_19 g) 1003 (nI sn) (nI 0) (nI k) M = _
    unfold BM_isFew_19 BM_isFew_48 BM_isFew_49
    rw [ms_ob H, gd1n, ms_g12 H, d_nz (by omega), gd1n, ms_r12 H (show sn < 5 by omega), gd1n, n_cl (by omega), h10, if_neg (of_eq_false (n_leF (by omega) (by omega))), if_pos (show nI 0 = 0 from rfl), l_1, n_add]
    exact ih (k + 1) g (by omega) (by omega)
theorem few1 (H : MS M) (hsn : sn ≤ 4) (h10 : giM M 1010 sn = nI st) (hst : st ≤ 24) (hS : ∀ j, j < st → STm M (3 * (24 * sn + j)) (sg j)) (h6 : ∀ j, j < st → (sg j).1 ≤ 6) : ∀ d k f, k + d = st → d < f → ((∀ i, k ≤ i → i < st → (sg i).1 < 5) ∧ LM_isFew_19 f 1003 (nI sn) (nI 1) (nI k) M = some (nI 1, M)) ∨ (¬ (∀ i, k ≤ i → i < st → (sg i).1 < 5) ∧ LM_isFew_19 f 1003 (nI sn) (nI 1) (nI k) M = some (nI 0, M)) := by
  intro d
  induction d with
  | zero =>
    intro k f hk hf
    obtain ⟨g, rfl⟩ : ∃ g, f = g + 1 := ⟨f - 1, by omega⟩
    refine Or.inl ⟨fun i h1 h2 => by omega, ?_⟩
    show BM_isFew_19 (LM_isFew_19 g) 1003 (nI sn) (nI 1) (nI k) M = _
    unfold BM_isFew_19
    rw [ms_ob H, gd1n, ms_g12 H, d_nz (by omega), gd1n, ms_r12 H (show sn < 5 by omega), gd1n, n_cl (by omega), h10, if_pos (of_eq_true (n_leT (by omega) (by omega)))]
    show gd (decide ((1 : Int32) = 0 ∨ (1 : Int32) = 1)) _ = _
    rw [bd01, gd1n]
  | succ d ih =>
    intro k f hk hf
    obtain ⟨g, rfl⟩ : ∃ g, f = g + 1 := ⟨f - 1, by omega⟩
    have so : fM_stepOf 1003 (nI sn) (nI k) 0 M = some (nI (sg k).1, M) := (st_of (k := 0) H hsn (by omega) (by omega)).trans (by rw [Nat.add_zero, (hS k (by omega)).1])
    have k6 := h6 k (by omega)
    have head : LM_isFew_19 (g + 1) 1003 (nI sn) (nI 1) (nI k) M = if 5 ≤ nI (sg k).1 then LM_isFew_19 g 1003 (nI sn) (nI 0) (nI (k + 1)) M else LM_isFew_19 g 1003 (nI sn) (nI 1) (nI (k + 1)) M := by
      show BM_isFew_19 (LM_isFew_19 g) 1003 (nI sn) (nI 1) (nI k) M = _
      unfold BM_isFew_19 BM_isFew_48 BM_isFew_49
      rw [ms_ob H, gd1n, ms_g12 H, d_nz (by omega), gd1n, ms_r12 H (show sn < 5 by omega), gd1n, n_cl (by omega), h10, if_neg (of_eq_false (n_leF (by omega) (by omega))), if_neg (show ¬ nI 1 = 0 by decide), so, bs1n, show nI k + 1 = nI (k + 1) from by rw [l_1, n_add]]
      rfl
    rw [head]
    by_cases c : 5 ≤ (sg k).1
    · rw [if_pos (show 5 ≤ nI (sg k).1 from of_eq_true (n_leT (a := 5) (b := (sg k).1) (by omega) (by omega)))]
      exact Or.inr ⟨fun h => by have := h k (Nat.le_refl k) (by omega); omega, few0 H hsn h10 hst d (k + 1) g (by omega) (by omega)⟩
    · rw [if_neg (show ¬ 5 ≤ nI (sg k).1 from of_eq_false (n_leF (a := 5) (b := (sg k).1) (by omega) (by omega)))]
      rcases ih (k + 1) g (by omega) (by omega) with ⟨h1, h2⟩ | ⟨h1, h2⟩
      · refine Or.inl ⟨fun i i1 i2 => ?_, h2⟩
        by_cases e : i = k
        · rw [e]; omega
        · exact h1 i (by omega) i2
      · exact Or.inr ⟨fun h => h1 (fun i i1 i2 => h i (by omega) i2), h2⟩
theorem few_m (H : MS M) (hsn : sn ≤ 4) (h10 : giM M 1010 sn = nI st) (hst : st ≤ 24) (hS : ∀ j, j < st → STm M (3 * (24 * sn + j)) (sg j)) (h6 : ∀ j, j < st → (sg j).1 ≤ 6) : (FEW sg st ∧ fM_isFew 1003 (nI sn) M = some (nI 1, M)) ∨ (¬ FEW sg st ∧ fM_isFew 1003 (nI sn) M = some (nI 0, M)) := by
  unfold fM_isFew BM_isFew_16
  rw [ms_ob H, gd1n, ms_g12 H, d_nz (by omega), gd1n, ms_r12 H (show sn < 5 by omega), gd1n, n_cl (by omega), h10]
  by_cases c : 6 < st
  · have e : LM_isFew_19 1000000 1003 (nI sn) 0 0 M = some (nI 0, M) := few0 H hsn h10 hst st 0 1000000 (by omega) (by omega)
    rw [if_pos (show 6 < nI st from of_eq_true (n_ltT (a := 6) (b := st) (by omega) (by omega))), e, bs1n]
    exact Or.inr ⟨fun h => by have := h.1; omega, rfl⟩
  · rw [if_neg (show ¬ 6 < nI st from of_eq_false (n_ltF (a := 6) (b := st) (by omega) (by omega)))]
    rcases few1 H hsn h10 hst hS h6 st 0 1000000 (by omega) (by omega) with ⟨h1, h2⟩ | ⟨h1, h2⟩
    · have h2 : LM_isFew_19 1000000 1003 (nI sn) 1 0 M = some (nI 1, M) := h2
      rw [h2, bs1n]
      exact Or.inl ⟨⟨by omega, fun i hi => h1 i (by omega) hi⟩, rfl⟩
    · have h2 : LM_isFew_19 1000000 1003 (nI sn) 1 0 M = some (nI 0, M) := h2
      rw [h2, bs1n]
      exact Or.inr ⟨fun h => h1 (fun i _ hi => h.2 i hi), rfl⟩
theorem mix_l (SS : SSh M sc) (h3 : giM M sc 3 = nI st) (hst : st ≤ 24) (hS : ∀ j, j < st → STc M sc j (sg j)) (h6 : ∀ j, j < st → (sg j).1 ≤ 6) : ∀ d k f, k + d = st → d < f → ((∀ i, k ≤ i → i < st → (sg i).1 < 5) ∧ LS_isMixable_2 f sc (nI k) M = some (.inr M)) ∨ (¬ (∀ i, k ≤ i → i < st → (sg i).1 < 5) ∧ LS_isMixable_2 f sc (nI k) M = some (.inl M)) := by
  obtain ⟨s0, so, ⟨sg0, sg1, sg2⟩, sa1, sa2, sa3⟩ := SS
  intro d
  induction d with
  | zero =>
    intro k f hk hf
    obtain ⟨g, rfl⟩ : ∃ g, f = g + 1 := ⟨f - 1, by omega⟩
    refine Or.inl ⟨fun i h1 h2 => by omega, ?_⟩
    show BS_isMixable_2 (LS_isMixable_2 g) sc (nI k) M = _
    unfold BS_isMixable_2
    rw [so, gd1n, h3, if_pos (of_eq_true (n_leT (by omega) (by omega)))]
  | succ d ih =>
    intro k f hk hf
    obtain ⟨g, rfl⟩ : ∃ g, f = g + 1 := ⟨f - 1, by omega⟩
    have k6 := h6 k (by omega)
    have head : LS_isMixable_2 (g + 1) sc (nI k) M = if nI (sg k).1 = 5 then some (.inl M) else (if nI (sg k).1 = 6 then some (.inl M) else LS_isMixable_2 g sc (nI (k + 1)) M) := by
      show BS_isMixable_2 (LS_isMixable_2 g) sc (nI k) M = _
      unfold BS_isMixable_2
      rw [so, gd1n, h3, if_neg (of_eq_false (n_leF (by omega) (by omega))), sg0, d_nz (by omega), gd1n, ar_rd sa1 (show k < 24 by omega), gd1n, n_cl (by omega), (hS k (by omega)).1, l_1, n_add]
    rw [head]
    by_cases c5 : (sg k).1 = 5
    · rw [if_pos (show nI (sg k).1 = 5 by rw [c5]; rfl)]
      exact Or.inr ⟨fun h => by have := h k (Nat.le_refl k) (by omega); omega, rfl⟩
    · rw [if_neg (show ¬ nI (sg k).1 = 5 from fun e => c5 (n_inj (b := 5) (by omega) (by omega) e))]
      by_cases c6 : (sg k).1 = 6
      · rw [if_pos (show nI (sg k).1 = 6 by rw [c6]; rfl)]
        exact Or.inr ⟨fun h => by have := h k (Nat.le_refl k) (by omega); omega, rfl⟩
      · rw [if_neg (show ¬ nI (sg k).1 = 6 from fun e => c6 (n_inj (b := 6) (by omega) (by omega) e))]
        rcases ih (k + 1) g (by omega) (by omega) with ⟨h1, h2⟩ | ⟨h1, h2⟩
        · refine Or.inl ⟨fun i i1 i2 => ?_, h2⟩
          by_cases e : i = k
          · rw [e]; omega
          · exact h1 i (by omega) i2
        · exact Or.inr ⟨fun h => h1 (fun i i1 i2 => h i (by omega) i2), h2⟩
theorem mix_c (SS : SSh M sc) (h3 : giM M sc 3 = nI st) (hst : st ≤ 24) (hS : ∀ j, j < st → STc M sc j (sg j)) (h6 : ∀ j, j < st → (sg j).1 ≤ 6) : (FEW sg st ∧ fS_isMixable sc M = some (nI 1, M)) ∨ (¬ FEW sg st ∧ fS_isMixable sc M = some (nI 0, M)) := by
  have so := SS.2.1
  unfold fS_isMixable
  rcases mix_l SS h3 hst hS h6 st 0 1000000 (by omega) (by omega) with ⟨h1, h2⟩ | ⟨h1, h2⟩
  · have h2 : LS_isMixable_2 1000000 sc 0 M = some (.inr M) := h2
    rw [h2, bs1n]
    show (_ ∧ (gd (obM M sc 8 4) <| if 6 < (giM M sc 3) then (BS_isMixable_53 0 M) else (BS_isMixable_53 1 M)) = _) ∨ (_ ∧ (gd (obM M sc 8 4) <| if 6 < (giM M sc 3) then (BS_isMixable_53 0 M) else (BS_isMixable_53 1 M)) = _)
    rw [so, gd1n, h3]
    unfold BS_isMixable_53
    by_cases c : 6 < st
    · rw [if_pos (show 6 < nI st from of_eq_true (n_ltT (a := 6) (b := st) (by omega) (by omega))), bd00, gd1n]
      exact Or.inr ⟨fun h => by have := h.1; omega, rfl⟩
    · rw [if_neg (show ¬ 6 < nI st from of_eq_false (n_ltF (a := 6) (b := st) (by omega) (by omega))), bd01, gd1n]
      exact Or.inl ⟨⟨by omega, fun i hi => h1 i (by omega) hi⟩, rfl⟩
  · have h2 : LS_isMixable_2 1000000 sc 0 M = some (.inl M) := h2
    rw [h2, bs1n]
    exact Or.inr ⟨fun h => h1 (fun i _ hi => h.2 i hi), rfl⟩
end FW
