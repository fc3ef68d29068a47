/-! WAYS: how many, reckoned -/
section MN
variable {M : Mem} {a b : Nat}
theorem p12 : ∀ k, k < 8 → 12 ^ k ≤ 35831808 := by decide
theorem wk_b {w k : Nat} (ha : a < 7) (h1 : 1 ≤ k) (h6 : k ≤ 6) (hw : w ≤ 12 ^ (k - 1)) : w * (a + k) ≤ 12 ^ k ∧ w * (a + k) / k ≤ 12 ^ (k + 1 - 1) ∧ w * (a + k) < 2147483648 := by
  have e : 12 ^ k = 12 ^ (k - 1) * 12 := by
    conv => lhs; rw [show k = (k - 1) + 1 by omega]
    exact Nat.pow_succ ..
  have h2 : w * (a + k) ≤ 12 ^ (k - 1) * 12 := Nat.mul_le_mul hw (by omega)
  have h3 := p12 k (by omega)
  have h4 : w * (a + k) / k ≤ w * (a + k) := Nat.div_le_self _ _
  rw [Nat.add_sub_cancel]
  omega
theorem wO_loop (ha : a < 7) (hb : b < 7) : ∀ d w k f, k + d = b + 1 → 1 ≤ k → w ≤ 12 ^ (k - 1) → d < f → LX_waysOf_4 f (nI a) (nI b) (nI w) (nI k) M = some (nI (wNk a b d w k), M) := by
  intro d
  induction d with
  | zero =>
    intro w k f hk h1 hw hf
    obtain ⟨g, rfl⟩ : ∃ g, f = g + 1 := ⟨f - 1, by omega⟩
    show BX_waysOf_4 (LX_waysOf_4 g) (nI a) (nI b) (nI w) (nI k) M = _
    unfold BX_waysOf_4
    rw [if_pos (of_eq_true (n_ltT (by omega) (by omega)))]
    rfl
  | succ d ih =>
    intro w k f hk h1 hw hf
    obtain ⟨g, rfl⟩ : ∃ g, f = g + 1 := ⟨f - 1, by omega⟩
    obtain ⟨b1, b2, b3⟩ := wk_b ha h1 (by omega) hw
    have i1 := ih (w * (a + k) / k) (k + 1) g (by omega) (by omega) b2 (by omega)
    have nk : decide (¬ nI k = 0) = true := decide_eq_true (fun e => by have := n_inj (b := 0) (by omega) (by omega) e; omega)
    show BX_waysOf_4 (LX_waysOf_4 g) (nI a) (nI b) (nI w) (nI k) M = _
    unfold BX_waysOf_4
    rw [if_neg (of_eq_false (n_ltF (by omega) (by omega))), nk, gd1n, n_add, n_mul, n_div b3 (by omega), l_1, n_add]
    exact i1
theorem wO_ok (ha : a < 7) (hb : b < 7) : fX_waysOf (nI a) (nI b) M = some (nI (wN a b), M) := by
  have e : LX_waysOf_4 1000000 (nI a) (nI b) 1 1 M = some (nI (wN a b), M) := wO_loop ha hb b 1 1 1000000 (by omega) (by omega) (by decide) (by omega)
  unfold fX_waysOf
  rw [e, bs1n]
theorem wM_loop {la lb : Nat} {vd : Int32} (ha : la < 7) (hb : lb < 7) (a4 : a ≤ 4) (b4 : b ≤ 4) : ∀ d w k f M, k + d = lb + 1 → 1 ≤ k → w ≤ 12 ^ (k - 1) → d < f → MS M → giM M 1010 a = nI la → giM M 1010 b = nI lb → giM M 1003 28 = nI w → ∃ M', LM_ways_56 f 1003 (nI a) (nI b) vd (nI k) M = some M' ∧ giM M' 1003 28 = nI (wNk la lb d w k) ∧ M'.2 = M.2 ∧ (∀ x, x ≠ 1003 → giM M' x = giM M x) ∧ ∀ j, j ≠ 28 → giM M' 1003 j = giM M 1003 j := by
  intro d
  induction d with
  | zero =>
    intro w k f M hk h1 hw hf H l1 l2 h28
    obtain ⟨g, rfl⟩ : ∃ g, f = g + 1 := ⟨f - 1, by omega⟩
    refine ⟨M, ?_, h28, rfl, fun _ _ => rfl, fun _ _ => rfl⟩
    show BM_ways_56 (LM_ways_56 g) 1003 (nI a) (nI b) vd (nI k) M = _
    unfold BM_ways_56
    rw [ms_ob H, gd1n, ms_g12 H, d_nz (by omega), gd1n, ms_r12 H (show b < 5 by omega), gd1n, n_cl (a := b) (by omega), l2, if_pos (of_eq_true (n_ltT (by omega) (by omega)))]
  | succ d ih =>
    intro w k f M hk h1 hw hf H l1 l2 h28
    obtain ⟨g, rfl⟩ : ∃ g, f = g + 1 := ⟨f - 1, by omega⟩
    obtain ⟨b1, b2, b3⟩ := wk_b ha h1 (by omega) hw
    have nk : decide (¬ nI k = 0) = true := decide_eq_true (fun e => by have := n_inj (b := 0) (by omega) (by omega) e; omega)
    obtain ⟨M', i1, i2, i3, i4, i5⟩ := ih (w * (la + k) / k) (k + 1) g (siM M 1003 28 (nI (w * (la + k) / k))) (by omega) (by omega) b2 (by omega) (MS_2 rfl H) (by rw [giM_un (by omega)]; exact l1) (by rw [giM_un (by omega)]; exact l2) (by rw [giM_ud, ud_s])
    refine ⟨M', ?_, i2, i3, fun x h => by rw [i4 x h, giM_un h], fun j h => by rw [i5 j h, giM_ud, ud_n _ _ h]⟩
    show BM_ways_56 (LM_ways_56 g) 1003 (nI a) (nI b) vd (nI k) M = _
    unfold BM_ways_56
    rw [ms_ob H, gd1n, ms_g12 H, d_nz (by omega), gd1n, ms_r12 H (show b < 5 by omega), gd1n, n_cl (a := b) (by omega), l2, if_neg (of_eq_false (n_ltF (by omega) (by omega))), ms_r12 H (show a < 5 by omega), gd1n, nk, gd1n, n_cl (a := a) (by omega), l1, h28, n_add, n_mul, n_div b3 (by omega), show nI k + 1 = nI (k + 1) from by rw [l_1, n_add]]
    exact i1
end MN
