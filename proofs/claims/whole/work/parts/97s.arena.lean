/-! READING: an arena, the class -/
section RA
variable {M M1 M2 : Mem} {l : List Nat} {a p : Nat} {w : Int32}
def ANS (l : List Nat) (v : Int32) (P : (Nat → Nat) → Nat → (Nat → Nat) → Prop) : Prop := match rdL l (l.length + 1) 0 false usS 0 (fun _ => 0) with
  | .inl (p, f, k, z) => (WH k z (f 2) ∧ v = mI ∧ P f k z) ∨ (¬ WH k z (f 2) ∧ v = nI p ∧ p ≤ 240)
  | .inr e => v = nI e ∧ e ≤ 240
theorem us_rg : ∀ j, loS j ≤ usS j ∧ usS j ≤ hiS j := fun j => by
  unfold loS usS hiS
  split <;> split <;> (try split) <;> (try split) <;> (try split) <;> omega
theorem u2_lt {f : Nat → Nat} (h : ∀ j, loS j ≤ f j ∧ f j ≤ hiS j) : f 2 < 1000 := by
  have := (h 2).2
  have e : hiS 2 = 40 := rfl
  omega
theorem cp53 (A : SHP M) : cpM M 5003 (nI 0) 9 (nI 0) (nI 5) = true := by
  unfold cpM
  rw [old_tg A (x := 5003) (by omega) (by omega), as_t9 A, show extM 5003 = true from by decide, sh_own A (a := 9) (by omega) (by omega), Bool.or_true, Bool.true_and, Bool.true_and]
  decide
theorem rf186 {x : ArR} (A : SHP M) (h : RR l x M) (lk : LOK l) (hx : x = rdL l (l.length + 1) 0 false usS 0 (fun _ => 0)) : ∃ v M', BU_readFrom_186 8 4 M = some (v, M') ∧ FA M M' ∧ TPc M' l ∧ ANS l v (RG M') := by
  have ll := lk.1
  unfold ANS
  rw [← hx]
  rcases x with ⟨p, f, k, z⟩ | e
  · obtain ⟨r, i1, i2, g⟩ := h
    obtain ⟨k6, fr, zr⟩ := rd_rg hx.symm (by omega) us_rg (fun j hj => by omega)
    have w0 := wr0 A r
    rcases sf_ok (z := z) (u := f 2) A k6 g.2.1 (fun j hj => ⟨g.2.2.2 j hj, by have := zr j hj; omega⟩) (g.2.2.1 2 (by omega)) (u2_lt fr) with ⟨hw, e1⟩ | ⟨hw, e1⟩
    · refine ⟨mI, M, ?_, FA_refl M, r.1, Or.inl ⟨hw, rfl, g⟩⟩
      unfold BU_readFrom_186 BU_readFrom_204
      rw [as_o4 A, gd1n, w0, bs1n, if_pos (show ((nI 0, M) : Int32 × Mem).1 = 0 from rfl), as_o8 A, gd1n, e1, bs1n, if_neg (show ¬ ((nI 1, M) : Int32 × Mem).1 = 0 from (show ¬ nI 1 = 0 by decide)), as_o4 A, gd1n, r.2.2]
    · have m1 := mark_ok A r
      have A1 := SHP_4 (i := 2) (z := nI p) A
      have r1 := RdC_2 r (nI p)
      refine ⟨nI p, siM M 4 2 (nI p), ?_, FA_F4 F4, r1.1, Or.inr ⟨hw, rfl, by omega⟩⟩
      unfold BU_readFrom_186 BU_readFrom_204
      rw [as_o4 A, gd1n, w0, bs1n, if_pos (show ((nI 0, M) : Int32 × Mem).1 = 0 from rfl), as_o8 A, gd1n, e1, bs1n, if_pos (show ((nI 0, M) : Int32 × Mem).1 = 0 from rfl), as_o4 A, gd1n, m1, bs1n, as_o4 A1, gd1n, r1.2.2]
  · obtain ⟨i1, p', r⟩ := h
    have w1 := wr1 A (by omega) r
    refine ⟨nI e, M, ?_, FA_refl M, r.1, rfl, i1⟩
    unfold BU_readFrom_186 BU_readFrom_204
    rw [as_o4 A, gd1n, w1, bs1n, if_neg (show ¬ ((nI 1, M) : Int32 × Mem).1 = 0 from (show ¬ nI 1 = 0 by decide)), as_o4 A, gd1n, r.2.2]
theorem rf_ok (lk : LOK l) (A : SHP M) (h : TPc M l) : ∃ v M', fU_readFrom 8 4 M = some (v, M') ∧ FA M M' ∧ TPc M' l ∧ ANS l v (RG M') := by
  have ll := lk.1
  have X : FA M (siM (saM M 9 (cpN (giM M 5003) (giM M 9) 5)) 8 2 (nI 0)) := ⟨rfl, fun x _ h2 h3 _ => by rw [giM_un h2, gi_san h3]⟩
  have y1 : giM (siM (saM M 9 (cpN (giM M 5003) (giM M 9) 5)) 8 2 (nI 0)) 8 2 = nI 0 := by rw [giM_ud, ud_s]
  have y2 : ∀ j, j < 5 → giM (siM (saM M 9 (cpN (giM M 5003) (giM M 9) 5)) 8 2 (nI 0)) 9 (0 + j) = nI (usS j) := fun j hj => by
    rw [giM_un (by omega), gi_sas, cpN_lt (by omega), Nat.zero_add, old_gi A (by omega) (by omega) (by exact hj)]
    rcases (show j = 0 ∨ j = 1 ∨ j = 2 ∨ j = 3 ∨ j = 4 by omega) with rfl | rfl | rfl | rfl | rfl <;> rfl
  have A1 := SHP_FA A X
  obtain ⟨M2, k2, F2, r2⟩ := rew_ok A1 (TPc_cg h (X.2 2 (by omega) (by omega) (by omega) (by omega)) (X.2 3 (by omega) (by omega) (by omega) (by omega)))
  have A2 := SHP_Fr A1 F2 (by omega)
  have g2 : RG M2 usS 0 (fun _ => 0) := RG_F4 ⟨by omega, y1, y2, fun j hj => by omega⟩ F2
  obtain ⟨r, k3, F3, q⟩ := rf_loop lk (l.length + 1) 999999 M2 0 false usS 0 (fun _ => 0) 0 (by omega) (by omega) A2 r2 (by omega) g2 (fun _ => rfl) (by omega)
  obtain ⟨v, M4, k4, F4', t4, an⟩ := rf186 (SHP_FA A2 F3) q lk rfl
  refine ⟨v, M4, ?_, FA_tr X (FA_tr (FA_F4 F2) (FA_tr F3 F4')), t4, an⟩
  have k3 : LU_readFrom_30 1000000 8 4 0 0 M2 = some r := k3
  have hcp : cpM M 5003 0 9 0 (Int32.ofNat 5) = true := cp53 A
  have k2 : fR_rewind 4 (siM (saM M 9 (va_cpy (giM M 5003) (giM M 9) (Int32.toNatClampNeg 0) (Int32.toNatClampNeg 0) (Int32.toNatClampNeg (Int32.ofNat 5)))) 8 2 0) = some M2 := by
    rw [show Int32.toNatClampNeg 0 = 0 from rfl, show Int32.toNatClampNeg (Int32.ofNat 5) = 5 from rfl, cp_cpy]
    exact k2
  unfold fU_readFrom
  rw [as_o8 A, gd1n, as_g8_0 A, d_nz (show 0 < 9 by omega), gd1n, as_l9 A, gd1n, as_t9 A, hcp, gd1n, as_o4 A, gd1n, k2, bs1n, k3, bs1n]
  rcases r with r | r
  · exact k4
  · exact k4
end RA
