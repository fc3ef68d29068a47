/-! THE LAW: its loop, from its start -/
theorem l6_lt : ∀ L, L < 6 → ∀ i, i < 6 → nI L - 6 < nI i := by decide
section LL
variable {L : Nat} {xs : Nat → Int32}
theorem w_loop (hL : L ≤ 3072) : ∀ t i M β, tgM M 5006 = (100, L) → GR M β → L + 6 ≤ 6 * t + i → i ≤ L → β + 40 * t < 1900000000 → ∃ M', fW_loop t (nI i) M = some M' := by
  intro t
  induction t with
  | zero => intro i M β hT G ht hi; omega
  | succ t ih =>
    intro i M β hT G ht hi hβ
    have ln : lnI M 5006 = true := by
      unfold lnI
      rw [hT]
      have e : extM 5006 = true := by decide
      rw [e, Bool.or_true]
      rfl
    have head : fW_loop (t + 1) (nI i) M = if nI L - 6 < nI i then some M else gd (rdI M 5006 (nI i)) <| (fW_step (giM M 5006 (Int32.toNatClampNeg (nI i)) &&& 63) (nI i) M).bind fun M' => fW_loop t (nI (i + 6)) M' := by
      show (gd (lnI M 5006) <| if Int32.ofNat (tgM M 5006).2 - 6 < nI i then some M else gd (rdI M 5006 (nI i)) <| (fW_step (giM M 5006 (Int32.toNatClampNeg (nI i)) &&& 63) (nI i) M).bind fun M' => fW_loop t (nI i + 6) M') = _
      rw [ln, gd1n, hT, qp_6]
      rfl
    rw [head]
    by_cases hE : L < i + 6
    · have c : nI L - 6 < nI i := by
        by_cases h6 : L < 6
        · exact l6_lt L h6 i (by omega)
        · rw [l_6, n_sub (by omega)]
          exact of_eq_true (n_ltT (by omega) (by omega))
      rw [if_pos c]
      exact ⟨M, rfl⟩
    · have c : ¬ nI L - 6 < nI i := by
        rw [l_6, n_sub (by omega)]
        exact of_eq_false (n_ltF (by omega) (by omega))
      have R : RDX M L i := ⟨hT, by omega, hL⟩
      obtain ⟨M1, s1, G1, x1⟩ := w_step G (by omega) R (giM M 5006 (Int32.toNatClampNeg (nI i)) &&& 63)
      rw [if_neg c, rd6 (j := i) hT (by omega) hL, gd1n, s1, bs1n]
      exact ih (i + 6) M1 (β + 40) (x1.2.trans hT) G1 (by omega) (by omega) (by omega)
theorem mc_i {a k : Nat} (h : (a, k) ∈ ([(5, 2), (6, 0), (6, 1), (2, 1), (1, 5), (1, 10), (790, 0), (790, 1), (790, 2), (790, 3), (50, 1), (50, 2), (48, 1), (1003, 0), (1003, 2), (1003, 10), (1003, 13), (1003, 25), (1003, 33), (1012, 0), (1012, 1), (1012, 2), (1012, 3), (1011, 3712)] : List (Nat × Nat))) (ha : a ≠ 5006) : giM (lawM xs L) a k = nI 0 := by
  have h1 := mc_inB
  unfold inB at h1
  have h2 := eq_of_beq (List.all_eq_true.mp h1 (a, k) h)
  have e : giM (lawM xs L) a = giM Mc a := giM_sw ha
  rw [e]
  exact h2
theorem GR_start : GR (lawM xs L) 0 := by
  refine ⟨⟨cnM_sw.trans mc_cn, fun a ha => (tgM_sw (by omega)).trans (mc_tg ha), fun a k ha hk _ => (congrFun (congrFun grM_sw a) k).trans (mc_rf ha hk), fun a h1 h2 => ?_⟩, ⟨0, by omega, mc_i (by simp) (by omega), mc_i (by simp) (by omega), fun i hi => by omega⟩, ⟨0, by omega, mc_i (by simp) (by omega), mc_i (by simp) (by omega), fun i hi => by omega⟩, fun w hw => ?_, Or.inl ⟨mc_i (by simp) (by omega), mc_i (by simp) (by omega), mc_i (by simp) (by omega), mc_i (by simp) (by omega), mc_i (by simp) (by omega), mc_i (by simp) (by omega), mc_i (by simp) (by omega), mc_i (by simp) (by omega), mc_i (by simp) (by omega), mc_i (by simp) (by omega), 0, by omega, mc_i (by simp) (by omega)⟩⟩
  · have e1 : tgM (lawM xs L) a = tgM Mc a := tgM_sw (by omega)
    have e2 : giM (lawM xs L) a = giM Mc a := giM_sw (by omega)
    rw [e1, e2]
    exact mc_old h1 h2
  · rcases (show w = 0 ∨ w = 1 ∨ w = 2 ∨ w = 3 by omega) with rfl | rfl | rfl | rfl <;> exact (mc_i (by simp) (by omega)).trans (mc_i (by simp) (by omega)).symm
theorem pure_law (hL : L ≤ 3072) : ∃ M1 : Mem, fW_loop 1000 0 (lawM xs L) = some M1 := w_loop hL 1000 0 (lawM xs L) 0 tgM_sw5 GR_start (by omega) (by omega) (by omega)
end LL
