/-! WAYS: the mixer's references; its beginning -/
section SR
variable {M M1 M2 : Mem} {ρ : Rul} {β : Nat} {S : HSt} {h k x : Nat}
theorem SHP_sr (A : SHP M) (hk : 3 ≤ k) : SHP (srM M 791 k x) := by
  refine ⟨A.1, A.2.1, fun a i ha hi hx => ?_, A.2.2.2⟩
  have e : grM (srM M 791 k x) a i = grM M a i := by
    show up2 M.2.1 791 k x a i = M.2.1 a i
    exact up2_n (by omega)
  rw [e]
  exact A.2.2.1 a i ha hi hx
theorem CC_sr (A : SHP M) (hk : 3 ≤ k) (hm : h ∈ hpsL) (C : CC M h ρ β S) : CC (srM M 791 k x) h ρ β S := ⟨HS_of (SHP_sr A hk) hm, C.2.1, C.2.2.1, C.2.2.2⟩
theorem TD_sr (A : SHP M) (hk : 3 ≤ k) (D : TD M ρ β S) : TD (srM M 791 k x) ρ β S := by
  obtain ⟨C, C', V, ⟨o, m, T, ho, hm, p1, p2, p3, p4⟩, I⟩ := D
  refine ⟨CC_sr A hk hp_32 C, ⟨MS_of (SHP_sr A hk), C'.2.1, C'.2.2.1, C'.2.2.2⟩, V, ⟨o, m, T, ho, hm, p1, p2, p3, fun j hj => ⟨CC_sr A hk (hp_p (Nat.mod_lt _ (by omega))) (p4 j hj).1, (p4 j hj).2⟩⟩, ?_⟩
  rcases I with I | ⟨i1, i2, S', i3, i4⟩
  · exact Or.inl I
  · exact Or.inr ⟨i1, i2, S', CC_sr A hk hp_772 i3, i4⟩
theorem gr_srq {a i : Nat} : grM (srM M 791 k x) a i = if a = 791 ∧ i = k then x else grM M a i := rfl
theorem cBeg {ca cb : Nat} (A : SHP M) (C : CC M 32 ρ β S) (V : Inv ρ β S) (h1 : 0 < ca) (h2 : 0 < cb) : ∃ M1, fX_begin 791 32 ca cb M = some M1 ∧ MF 0 (srM (srM M 791 3 ca) 791 4 cb) M1 ∧ CC M1 795 ρ β S ∧ PG M1 813 0 0 g00 ∧ PG M1 817 0 0 g00 ∧ AcX M1 0 0 0 16 := by
  have A0 : SHP (srM (srM M 791 3 ca) 791 4 cb) := SHP_sr (SHP_sr A (by omega)) (by omega)
  have C0 : CC (srM (srM M 791 3 ca) 791 4 cb) 32 ρ β S := CC_sr (SHP_sr A (by omega)) (by omega) hp_32 (CC_sr A (by omega) hp_32 C)
  have o0 := as_o791 A
  have w0 : wrT 103 M 792 0 = true := as_x792 A (i := 0) (by omega)
  have g0 := as_g791_0 A0
  have g1 : grM (srM (srM M 791 3 ca) 791 4 cb) 792 0 = 795 := zx_h A0 (l := 0) (by omega)
  have ob1 : obM M 795 1 9 = true := hs_ob (HS_of A (hp_m (i := 0) (by omega)))
  have c0 : Int32.toNatClampNeg 0 = 0 := by decide
  generalize hM0 : srM (srM M 791 3 ca) 791 4 cb = M0 at A0 C0 g0 g1
  obtain ⟨M1, k1, F1, C1⟩ := cCopy C0 V (HS_of A0 (hp_m (i := 0) (by omega))) (by omega)
  have k1 : fH_copyFrom 795 32 M0 = some M1 := k1
  have A1 := SHP_Fr A0 F1 (by omega)
  have F2 : Fr M1 (siM (siM M1 813 3 (nI 0)) 813 4 (nI 0)) 813 816 := Fr_tr (Fr_si (by omega) (by omega)) (Fr_si (by omega) (by omega))
  have P2 : PG (siM (siM M1 813 3 (nI 0)) 813 4 (nI 0)) 813 0 0 g00 := ⟨by rw [giM_ud, ud_n _ _ (by omega), giM_ud, ud_s], by rw [giM_ud, ud_s], fun r hr => by omega⟩
  have e2 : fG_restart 813 M1 = some (siM (siM M1 813 3 (nI 0)) 813 4 (nI 0)) := by
    unfold fG_restart
    rw [ps_ob (PS_mx A1 (l := 0) (by omega) (Or.inl rfl)), gd1n]
    rfl
  have A2 := SHP_Fr A1 F2 (by omega)
  generalize siM (siM M1 813 3 (nI 0)) 813 4 (nI 0) = M2 at F2 P2 e2 A2
  have F3 : Fr M2 (siM (siM M2 817 3 (nI 0)) 817 4 (nI 0)) 817 820 := Fr_tr (Fr_si (by omega) (by omega)) (Fr_si (by omega) (by omega))
  have P3 : PG (siM (siM M2 817 3 (nI 0)) 817 4 (nI 0)) 817 0 0 g00 := ⟨by rw [giM_ud, ud_n _ _ (by omega), giM_ud, ud_s], by rw [giM_ud, ud_s], fun r hr => by omega⟩
  have e3 : fG_restart 817 M2 = some (siM (siM M2 817 3 (nI 0)) 817 4 (nI 0)) := by
    unfold fG_restart
    rw [ps_ob (PS_mx A2 (l := 0) (by omega) (Or.inr rfl)), gd1n]
    rfl
  have A3 := SHP_Fr A2 F3 (by omega)
  generalize siM (siM M2 817 3 (nI 0)) 817 4 (nI 0) = M3 at F3 P3 e3 A3
  have F4 : Fr M3 (siM (siM (siM (siM M3 791 5 (nI 0)) 791 6 (nI 0)) 791 7 (nI 0)) 791 8 (nI 16)) 791 791 := Fr_tr (Fr_tr (Fr_tr (Fr_si (by omega) (by omega)) (Fr_si (by omega) (by omega))) (Fr_si (by omega) (by omega))) (Fr_si (by omega) (by omega))
  have a4 : AcX (siM (siM (siM (siM M3 791 5 (nI 0)) 791 6 (nI 0)) 791 7 (nI 0)) 791 8 (nI 16)) 0 0 0 16 := by
    refine ⟨?_, ?_, ?_, ?_, by omega, by omega⟩
    · rw [giM_ud, ud_n _ _ (by omega), giM_ud, ud_n _ _ (by omega), giM_ud, ud_n _ _ (by omega), giM_ud, ud_s]
    · rw [giM_ud, ud_n _ _ (by omega), giM_ud, ud_n _ _ (by omega), giM_ud, ud_s]
    · rw [giM_ud, ud_n _ _ (by omega), giM_ud, ud_s]
    · rw [giM_ud, ud_s]
  have X : MF 0 M0 (siM (siM (siM (siM M3 791 5 (nI 0)) 791 6 (nI 0)) 791 7 (nI 0)) 791 8 (nI 16)) := MF_tr (MF_tr (MF_tr (MF_Fr F1 (by omega) (by omega)) (MF_Fr F2 (by omega) (by omega))) (MF_Fr F3 (by omega) (by omega))) (MF_9 F4)
  refine ⟨_, ?_, X, CC_Fr (CC_Fr (CC_Fr C1 F2 (by omega) (by omega)) F3 (by omega) (by omega)) F4 (by omega) (by omega), PG_cg (PG_cg P2 (fun a h1 h2 => F3.2 a (by omega))) (fun a h1 h2 => F4.2 a (by omega)), PG_cg P3 (fun a h1 h2 => F4.2 a (by omega)), a4⟩
  have q1 : grM M1 793 0 = 813 := zx_1 A1 (l := 0) (by omega)
  have q2 : grM M2 794 0 = 817 := zx_2 A2 (l := 0) (by omega)
  have y1 : wrT 105 M1 793 0 = true := as_x793 A1 (i := 0) (by omega)
  have y2 : wrT 105 M2 794 0 = true := as_x794 A2 (i := 0) (by omega)
  have b1 : obM M1 813 5 5 = true := ps_ob (PS_mx A1 (l := 0) (by omega) (Or.inl rfl))
  have b2 : obM M2 817 5 5 = true := ps_ob (PS_mx A2 (l := 0) (by omega) (Or.inr rfl))
  unfold fX_begin
  rw [o0, gd1n, d_nz h1, gd1n, d_nz h2, gd1n, hM0, g0, d_nz (by omega), gd1n, w0, gd1n, c0, g1, d_nz (by omega), gd1n, ob1, gd1n, k1, bs1n, as_o791 A1, gd1n, as_g791_1 A1, d_nz (by omega), gd1n, y1, gd1n, q1, d_nz (by omega), gd1n, b1, gd1n, e2, bs1n, as_o791 A2, gd1n, as_g791_2 A2, d_nz (by omega), gd1n, y2, gd1n, q2, d_nz (by omega), gd1n, b2, gd1n, e3, bs1n, as_o791 A3, gd1n]
  rfl
end SR
