/-! YEARS: draws -/
def stY (s : Int64) : Int64 := (s * 6364136223846793005) + 1442695040888963407
def shY (s : Int64) : Int64 := (Int64.toUInt64 s >>> (Int64.toUInt64 (Int32.toInt64 33) &&& Int64.toUInt64 63)).toInt64
def dwY (s : Int64) (v : Int32) : Int32 := Int64.toInt32 (shY s - shY s / (Int32.toInt64 v) * (Int32.toInt64 v))
def dnY (s : Int64) (k : Nat) : Nat := (dwY s (nI k)).toNatClampNeg
theorem shY_ok (s : Int64) : ∃ a, a < 2147483648 ∧ shY s = Int64.ofNat a := by
  have hk : (Int64.toUInt64 (Int32.toInt64 33) &&& Int64.toUInt64 63) = 33 := by decide
  refine ⟨(Int64.toUInt64 s >>> (33 : UInt64)).toNat, ?_, ?_⟩
  · rw [UInt64.toNat_shiftRight]
    have h := (Int64.toUInt64 s).toNat_lt
    have e : (33 : UInt64).toNat % 64 = 33 := by decide
    rw [e, Nat.shiftRight_eq_div_pow]
    omega
  · unfold shY
    rw [hk]
    have e : ∀ u : UInt64, u.toInt64 = Int64.ofNat u.toNat := fun u => by
      have h := UInt64.toInt64_ofNatLT (n := u.toNat) u.toNat_lt
      rw [UInt64.ofNatLT_toNat] at h
      exact h
    exact e _
theorem toL {k : Nat} (h : k < 2147483648) : Int32.toInt64 (nI k) = Int64.ofNat k := Int32.toInt64_ofNat' (by rw [Int32.toInt_maxValue]; omega)
theorem dwY_ok (s : Int64) {k : Nat} (h0 : 0 < k) (hk : k < 2147483648) : dwY s (nI k) = nI (dnY s k) ∧ dnY s k < k := by
  obtain ⟨a, ha, e⟩ := shY_ok s
  have h1 : dwY s (nI k) = nI (a % k) := by
    unfold dwY
    have hm := Nat.div_add_mod a k
    have hc := Nat.mul_comm k (a / k)
    rw [e, toL hk, ← Int64.ofNat_div (by omega) (by omega), ← Int64.ofNat_mul, ← Int64.ofNat_sub _ _ (by omega), show a - a / k * k = a % k by omega]
    exact Int64.toInt32_ofNat'
  have h2 := Nat.mod_lt a h0
  have h3 : dnY s k = a % k := by
    unfold dnY
    rw [h1, n_cl (by omega)]
  rw [h3]
  exact ⟨h1, h2⟩
section YR
variable {M M1 M2 : Mem} {ρ : Rul} {β : Nat} {S : HSt}
theorem stA (s : Int64) : fA_stir s M = some (stY s, M) := rfl
theorem dwA (s : Int64) {k : Nat} (h0 : 0 < k) (hk : k < 2147483648) : fA_drawn s (nI k) M = some (nI (dnY s k), M) := by
  have h := (dwY_ok s h0 hk).1
  rw [← h]
  have hz : (decide (¬ (Int32.toInt64 (nI k)) = 0)) = true := by
    rw [toL hk]
    refine decide_eq_true (fun e => ?_)
    have := congrArg Int64.toInt32 e
    rw [Int64.toInt32_ofNat'] at this
    have : nI k = nI 0 := this
    have := n_inj hk (by omega) this
    omega
  unfold fA_drawn
  rw [hz, if_neg (show ¬ nI k ≤ 0 from fun e => absurd (of_eq_false (n_leF h0 hk) e) id)]
  rfl
theorem slM_sl (M : Mem) (x y : Int64) {a i : Nat} : slM (slM M a i x) a i y = slM M a i y := by
  unfold slM
  refine Prod.ext rfl (Prod.ext rfl (Prod.ext ?_ rfl))
  funext b j
  show (if b = a ∧ j = i then y else if b = a ∧ j = i then x else M.2.2.1 b j) = if b = a ∧ j = i then y else M.2.2.1 b j
  by_cases h : b = a ∧ j = i
  · rw [if_pos h, if_pos h]
  · rw [if_neg h, if_neg h, if_neg h]
theorem glM_s (M : Mem) (x : Int64) : glM (slM M 1003 26 x) 1003 26 = x := by rw [glM_sl]; exact if_pos ⟨rfl, rfl⟩
theorem slM_id (M : Mem) : slM M 1003 26 (glM M 1003 26) = M := by
  unfold slM
  refine Prod.ext rfl (Prod.ext rfl (Prod.ext ?_ rfl))
  funext b j
  show (if b = 1003 ∧ j = 26 then M.2.2.1 1003 26 else M.2.2.1 b j) = M.2.2.1 b j
  by_cases h : b = 1003 ∧ j = 26
  · rw [if_pos h, h.1, h.2]
  · rw [if_neg h]
theorem dwM (H : MS M) {s : Int64} (e : glM M 1003 26 = s) {k : Nat} (h0 : 0 < k) (hk : k < 2147483648) : fM_draw 1003 (nI k) M = some (nI (dnY (stY s) k), slM M 1003 26 (stY s)) := by
  have h := (dwY_ok (stY s) h0 hk).1
  rw [← h]
  have hz : (decide (¬ (Int32.toInt64 (nI k)) = 0)) = true := by
    rw [toL hk]
    refine decide_eq_true (fun e => ?_)
    have := congrArg Int64.toInt32 e
    rw [Int64.toInt32_ofNat'] at this
    have : nI k = nI 0 := this
    have := n_inj hk (by omega) this
    omega
  have ho := ms_ob H
  have ho2 : obM (slM M 1003 26 (stY s)) 1003 11 34 = true := ho
  unfold fM_draw
  have e2 : (glM M 1003 26 * 6364136223846793005) + 1442695040888963407 = stY s := by rw [e]; rfl
  rw [e2, glM_s]
  simp only [gd1, bs1, ↓reduceIte, d_nz, d_nn, or_true, true_or, or_false, false_or, decide_true, Sum.elim_inl, Sum.elim_inr, ho, ho2, hz]
  rfl
end YR
