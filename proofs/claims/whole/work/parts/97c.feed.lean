/-! BYTES -/
def bY (v : Int32) (d : Nat) : Nat := (v.toUInt32.toNat >>> (8 * d)) % 256
theorem bY_lt (v : Int32) (d : Nat) : bY v d < 256 := Nat.mod_lt _ (by omega)
theorem u32n (u : UInt32) : u.toInt32 = nI u.toNat := by
  have h := UInt32.toInt32_ofNatLT (n := u.toNat) u.toNat_lt
  rw [UInt32.ofNatLT_toNat] at h
  exact h
theorem and255 (u : UInt32) : u.toInt32 &&& nI 255 = nI (u.toNat % 256) := by
  have e : u.toInt32 &&& nI 255 = (u &&& 255).toInt32 := rfl
  rw [e, u32n, UInt32.toNat_and]
  congr 1
  exact Nat.and_two_pow_sub_one_eq_mod u.toNat 8
theorem bC (v : Int32) {d : Nat} (hd : d < 4) : ((Int32.toUInt32 v >>> (Int32.toUInt32 (nI (8 * d)) &&& Int32.toUInt32 (nI 31))).toInt32) &&& nI 255 = nI (bY v d) := by
  rw [and255, UInt32.toNat_shiftRight]
  have e : (Int32.toUInt32 (nI (8 * d)) &&& Int32.toUInt32 (nI 31)).toNat % 32 = 8 * d := by
    rcases (show d = 0 ∨ d = 1 ∨ d = 2 ∨ d = 3 by omega) with rfl | rfl | rfl | rfl <;> decide
  rw [e]
  rfl
theorem bv255 (x : BitVec 32) {n : Nat} (hn : n ≤ 24) : x.sshiftRight n &&& 255#32 = (x >>> n) &&& 255#32 := by
  apply BitVec.eq_of_getLsbD_eq
  intro i hi
  rw [BitVec.getLsbD_and, BitVec.getLsbD_and, BitVec.getLsbD_sshiftRight, BitVec.getLsbD_ushiftRight]
  by_cases h : i < 8
  · rw [if_pos (by omega), decide_eq_false (show ¬ 32 ≤ i by omega)]
    rfl
  · have e : (255#32).getLsbD i = false := by
      have e1 : (255#32).getLsbD i = Nat.testBit 255 i := by
        rw [BitVec.getLsbD_ofNat, decide_eq_true hi, Bool.true_and]
      rw [e1]
      exact Nat.testBit_lt_two_pow (Nat.lt_of_lt_of_le (show 255 < 2 ^ 8 by decide) (Nat.pow_le_pow_right (by omega) (by omega)))
    rw [e, Bool.and_false, Bool.and_false]
theorem bM (v : Int32) {d : Nat} (hd : d < 4) : (v >>> (nI (8 * d) &&& nI 31)) &&& nI 255 = nI (bY v d) := by
  rw [← bC v hd]
  apply Int32.toBitVec.inj
  have e1 : ((v >>> (nI (8 * d) &&& nI 31)) &&& nI 255).toBitVec = v.toBitVec.sshiftRight (8 * d) &&& 255#32 := by
    rcases (show d = 0 ∨ d = 1 ∨ d = 2 ∨ d = 3 by omega) with rfl | rfl | rfl | rfl <;> rfl
  have e2 : (((Int32.toUInt32 v >>> (Int32.toUInt32 (nI (8 * d)) &&& Int32.toUInt32 (nI 31))).toInt32) &&& nI 255).toBitVec = (v.toBitVec >>> (8 * d)) &&& 255#32 := by
    rcases (show d = 0 ∨ d = 1 ∨ d = 2 ∨ d = 3 by omega) with rfl | rfl | rfl | rfl <;> rfl
  rw [e1, e2, bv255 _ (by omega)]
/-! the arena of both sides stays -/
section DC
variable {M M1 M2 : Mem} {ρ : Rul} {β h b o m : Nat} {S S' : HSt} {T : Nat → HSt}
theorem CC_cg (C : CC M h ρ β S) (s : M1.2 = M.2) (g : ∀ a, (5 ≤ a ∧ a ≤ 7) ∨ (h + 1 ≤ a ∧ a ≤ h + 17) → giM M1 a = giM M a) : CC M1 h ρ β S := by
  obtain ⟨H, R, hR, C1, C2, C3, C4, C5, C6⟩ := C
  refine ⟨HS_2 s H, RuC_of R (g 5 (by omega)) (g 6 (by omega)) (g 7 (by omega)), hR, ?_, ?_, ?_, ?_, ?_, ?_⟩
  · rw [g (h + 1) (by omega), g (h + 2) (by omega), g (h + 3) (by omega), g (h + 8) (by omega)]
    exact C1
  · unfold ChM
    rw [g (h + 4 + 1) (by omega), g (h + 4 + 2) (by omega), g (h + 4 + 3) (by omega), g (h + 4 + 4) (by omega)]
    exact C2
  · unfold ChM
    rw [g (h + 9 + 1) (by omega), g (h + 9 + 2) (by omega), g (h + 9 + 3) (by omega), g (h + 9 + 4) (by omega)]
    exact C3
  · rw [g (h + 13) (by omega)]
    exact C4
  · rw [g (h + 14) (by omega), g (h + 15) (by omega)]
    exact C5
  · rw [g (h + 16) (by omega), g (h + 17) (by omega)]
    exact C6
/-- the arena's cells on both sides are the same -/
def DS (M M1 : Mem) : Prop := M1.2 = M.2 ∧ (∀ a, (5 ≤ a ∧ a ≤ 7) ∨ (32 ≤ a ∧ a ≤ 790) ∨ a = 1007 ∨ a = 1008 ∨ a = 1011 ∨ a = 1012 ∨ a = 1018 ∨ a = 1020 ∨ 5000 < a → giM M1 a = giM M a) ∧ giM M1 1 10 = giM M 1 10 ∧ ∀ k, k = 10 ∨ k = 25 ∨ k = 33 → giM M1 1003 k = giM M 1003 k
theorem DS_tr (h : DS M M1) (g : DS M1 M2) : DS M M2 := ⟨g.1.trans h.1, fun a ha => (g.2.1 a ha).trans (h.2.1 a ha), g.2.2.1.trans h.2.2.1, fun k hk => (g.2.2.2 k hk).trans (h.2.2.2 k hk)⟩
theorem SHP_DS (A : SHP M) (h : DS M M1) : SHP M1 := SHP_2 A h.1 (fun a h1 h2 => h.2.1 a (by omega))
theorem XS_DS (h : DS M M1) : XS M M1 := ⟨h.2.1 5006 (by omega), by rw [tgM_2 h.1]⟩
theorem RE_DS (r : RE M) (h : DS M M1) : RE M1 := RE_cg r (h.2.1 790 (by omega)) (h.2.1 1012 (by omega))
theorem DT_DS (D : UT M ∨ ∃ ρ S, TD M ρ β S) (h : DS M M1) : UT M1 ∨ ∃ ρ S, TD M1 ρ β S := by
  rcases D with U | ⟨ρ, S, D⟩
  · left
    unfold UT
    rw [h.2.1 5 (by omega), h.2.1 6 (by omega), h.2.2.2 10 (by omega), h.2.1 50 (by omega), h.2.2.2 25 (by omega), h.2.2.1, h.2.2.2 33 (by omega), h.2.1 48 (by omega), h.2.1 1011 (by omega)]
    exact U
  · refine Or.inr ⟨ρ, S, ?_⟩
    obtain ⟨o, m, T, b, S', ho, hm, hb, C, P, I, C', P', I', V, VT, VI⟩ := TD_get D
    refine TD_mk ho hm hb (CC_cg C h.1 (fun a ha => h.2.1 a (by omega))) ⟨?_, ?_, fun j hj => ?_⟩ ⟨?_, fun e => CC_cg (I.2 e) h.1 (fun a ha => h.2.1 a (by omega))⟩ ⟨MS_2 h.1 C'.1, ?_, C'.2.2.1, ?_⟩ ?_ ?_ V VT VI
    · rw [h.2.1 50 (by omega)]; exact P.1
    · rw [h.2.1 50 (by omega)]; exact P.2.1
    · have : (o + j) % 40 < 40 := Nat.mod_lt _ (by omega)
      exact CC_cg (P.2.2 j hj) h.1 (fun a ha => h.2.1 a (by omega))
    · rw [h.2.2.1]; exact I.1
    · unfold RuM
      rw [h.2.1 1007 (by omega), h.2.1 1008 (by omega), h.2.2.2 10 (by omega)]
      exact C'.2.1
    · rw [h.2.1 1011 (by omega)]; exact C'.2.2.2
    · unfold PR
      rw [h.2.2.2 25 (by omega), h.2.1 1018 (by omega)]
      exact P'
    · unfold IR
      rw [h.2.2.2 33 (by omega), h.2.1 1020 (by omega)]
      exact I'
end DC
