/-! WAYS: the class, what the mixer stands on -/
section MX
variable {M M1 M2 : Mem} {ρ : Rul} {β n m d q s l : Nat} {Y : HSt} {g k : Nat → GoT}
theorem zxT : ∀ l, l < 7 → ∀ e, e = 813 ∨ e = 817 → (tgT 5 (e + 26 * l) = (5, 5) ∧ rkT (e + 26 * l) = 5 ∧ rfT (e + 26 * l) 0 = e + 26 * l + 1 ∧ rfT (e + 26 * l) 1 = e + 26 * l + 2 ∧ rfT (e + 26 * l) 2 = e + 26 * l + 3 ∧ tgT 5 (e + 26 * l + 1) = (100, 24) ∧ tgT 5 (e + 26 * l + 2) = (100, 24) ∧ tgT 5 (e + 26 * l + 3) = (100, 24)) := by
  intro l hl e he
  rcases (show l = 0 ∨ l = 1 ∨ l = 2 ∨ l = 3 ∨ l = 4 ∨ l = 5 ∨ l = 6 by omega) with rfl | rfl | rfl | rfl | rfl | rfl | rfl <;> rcases he with rfl | rfl <;> decide +kernel
theorem zxR : ∀ l, l < 7 → rkT 792 = 7 ∧ rkT 793 = 7 ∧ rkT 794 = 7 ∧ rfT 792 l = 795 + 26 * l ∧ rfT 793 l = 813 + 26 * l ∧ rfT 794 l = 817 + 26 * l := by decide +kernel
theorem PS_mx {e : Nat} (A : SHP M) (hl : l < 7) (he : e = 813 ∨ e = 817) : PSh M (e + 26 * l) := by
  obtain ⟨t0, t1, t2, t3, t4, t5, t6, t7⟩ := zxT l hl e he
  exact ⟨⟨by omega, by omega⟩, sh_ob A (by omega) (by omega) t0, ⟨sh_gr A (by omega) (by rw [t1]; omega) (Or.inl (by omega)) t2, sh_gr A (by omega) (by rw [t1]; omega) (Or.inl (by omega)) t3, sh_gr A (by omega) (by rw [t1]; omega) (Or.inl (by omega)) t4⟩, sh_ar A (by omega) (by omega) t5 (by omega), sh_ar A (by omega) (by omega) t6 (by omega), sh_ar A (by omega) (by omega) t7 (by omega)⟩
theorem zx_h (A : SHP M) (hl : l < 7) : grM M 792 l = 795 + 26 * l := by
  obtain ⟨t1, -, -, t2, -, -⟩ := zxR l hl
  exact sh_gr A (by omega) (by rw [t1]; exact hl) (Or.inl (by omega)) t2
theorem zx_1 (A : SHP M) (hl : l < 7) : grM M 793 l = 813 + 26 * l := by
  obtain ⟨-, t1, -, -, t2, -⟩ := zxR l hl
  exact sh_gr A (by omega) (by rw [t1]; exact hl) (Or.inl (by omega)) t2
theorem zx_2 (A : SHP M) (hl : l < 7) : grM M 794 l = 817 + 26 * l := by
  obtain ⟨-, -, t1, -, -, t2⟩ := zxR l hl
  exact sh_gr A (by omega) (by rw [t1]; exact hl) (Or.inl (by omega)) t2
theorem PG_cg (P : PG M q n d g) (e : ∀ a, q ≤ a → a ≤ q + 3 → giM M1 a = giM M a) : PG M1 q n d g := by
  unfold PG
  rw [e q (by omega) (by omega), e (q + 1) (by omega) (by omega), e (q + 2) (by omega) (by omega), e (q + 3) (by omega) (by omega)]
  exact P
theorem cPgc (S1 : PSh M s) (S2 : PSh M q) (hd : s + 3 < q ∨ q + 3 < s) (P : PG M s n d g) (hn : n ≤ 24) : ∃ M', fG_copyFrom q s M = some M' ∧ Fr M M' q (q + 3) ∧ PG M' q n d g := by
  have b1 := ps_b S1
  have b2 := ps_b S2
  have c1 := cp_ok (ps_a1 S1) (ps_a1 S2) (Nat.le_refl 24)
  have c2 := cp_ok (ps_a2 S1) (ps_a2 S2) (Nat.le_refl 24)
  have c3 := cp_ok (ps_a3 S1) (ps_a3 S2) (Nat.le_refl 24)
  refine ⟨siM (siM (saM (saM (saM M (q + 1) (cpN (giM M (s + 1)) (giM M (q + 1)) 24)) (q + 2) (cpN (giM M (s + 2)) (giM M (q + 2)) 24)) (q + 3) (cpN (giM M (s + 3)) (giM M (q + 3)) 24)) q 3 (nI n)) q 4 (nI d), ?_, ⟨rfl, fun a ha => ?_⟩, ?_, ?_, fun r hr => ?_⟩
  · have e3 := P.1
    have e4 := P.2.1
    simp (disch := omega) only [fG_copyFrom, gd1, bs1, ↓reduceIte, d_nz, d_nn, or_true, true_or, or_false, false_or, decide_true, Sum.elim_inl, Sum.elim_inr, ↓l_m1, l_0, l_1, l_2, l_3, l_4, l_5, l_6, l_7, l_8, l_9, l_10, l_16, l_17, l_18, l_20, l_23, l_24, l_30, l_31, l_32, l_39, l_40, l_41, l_48, l_57, l_58, l_59, l_60, l_63, l_90, l_97, l_98, l_99, l_100, l_102, l_103, l_104, l_107, l_109, l_112, l_115, l_116, l_117, l_120, l_122, l_126, l_166, l_180, l_240, l_255, l_640, l_999, l_2656, l_3064, l_3704, l_3708, l_3712, l_3713, l_3893, l_155720, l_1000000, n_ltT, n_ltF, n_leT, n_leF, n_eqT, n_eqF, n_eqm, n_eqm', n_mltn, n_mlen, n_nltm, n_nlem, n_mltm, n_mlem, n_add, n_mul, n_sub, n_subm, n_cl, n_ofNat, n_div, n_mod, obM_si, rdI_si, wrI_si, lnI_si, grM_si', tgM_si', obM_sa, rdI_sa, wrI_sa, lnI_sa, grM_sa', tgM_sa', ps_ob S1, ps_ob S2, ps_g0 S1, ps_g0 S2, ps_g1 S1, ps_g1 S2, ps_g2 S1, ps_g2 S2, c1, c2, c3, cp_cpy, gi_san, giM_un, e3, e4]
  · simp (disch := omega) only [gi_san, giM_un]
  · rw [giM_ud, ud_n _ _ (by omega), giM_ud, ud_s]
  · rw [giM_ud, ud_s]
  · have hr24 : r < 24 := by omega
    simp (disch := omega) only [gi_san, gi_sas, giM_un, cpN_lt hr24]
    exact P.2.2 r hr
/-- what the mixer has counted -/
def AcX (M : Mem) (al w mo fw : Nat) : Prop := giM M 791 5 = nI al ∧ giM M 791 6 = nI w ∧ giM M 791 7 = nI mo ∧ giM M 791 8 = nI fw ∧ mo ≤ 16 ∧ fw ≤ 16
def fFx (fw : Nat) (l : List (Nat × Nat × Nat)) : Nat := l.foldl (fun a x => min a x.1) fw
theorem fFx_app (fw : Nat) (l l' : List (Nat × Nat × Nat)) : fFx fw (l ++ l') = fFx (fFx fw l) l' := List.foldl_append
theorem sA_app (l l' : List (Nat × Nat × Nat)) : sA (l ++ l') = sA l + sA l' := by
  unfold sA
  rw [List.map_append, List.sum_append]
theorem fFx_min : ∀ (l : List (Nat × Nat × Nat)) (a b : Nat), fFx (min a b) l = min a (fFx b l)
  | [], _, _ => rfl
  | x :: l, a, b => by
    show fFx (min (min a b) x.1) l = min a (fFx (min b x.1) l)
    rw [show min (min a b) x.1 = min a (min b x.1) by omega]
    exact fFx_min l a _
theorem fFe_x : ∀ (l : List (Nat × Nat × Nat)) (y : Nat), fFe (some y) l = some (fFx y l)
  | [], _ => rfl
  | x :: l, y => fFe_x l (min y x.1)
theorem fFe_n {l : List (Nat × Nat × Nat)} (h : l ≠ []) (h2 : ∀ y, fFe none l = some y → y ≤ 16) : fFe none l = some (fFx 16 l) := by
  cases l with
  | nil => exact absurd rfl h
  | cons x l =>
    have e : fFe none (x :: l) = some (fFx x.1 l) := fFe_x l x.1
    have h3 := h2 _ e
    rw [e]
    show _ = some (fFx (min 16 x.1) l)
    rw [fFx_min, show min 16 (fFx x.1 l) = fFx x.1 l by omega]
theorem AcX_cg {al w mo fw : Nat} (a : AcX M al w mo fw) (e : giM M1 791 = giM M 791) : AcX M1 al w mo fw := by
  unfold AcX
  rw [e]
  exact a
theorem cTal {al w mo fw h c : Nat} (A : SHP M) (C : CC M h ρ β Y) (V : Inv ρ β Y) (h8 : h < 1000) (a : AcX M al w mo fw) : ∃ M', fX_tally 791 h (nI c) M = some M' ∧ Fr M M' 791 791 ∧ AcX M' (al + c) w (max mo (pgU ρ Y)) (min fw (pgU ρ Y)) := by
  obtain ⟨a1, a2, a3, a4, a5, a6⟩ := a
  have hu := pgU_le (Y := Y) C.2.2.1
  have u0 : fH_pagesInUse h M = some (nI (pgU ρ Y), M) := qUse C V
  have m0 := maxK_ok (M := siM M 791 5 (nI (al + c))) (a := mo) (b := pgU ρ Y) (by omega) (by omega)
  have m1 := minK_ok (M := siM (siM M 791 5 (nI (al + c))) 791 7 (nI (max mo (pgU ρ Y)))) (a := fw) (b := pgU ρ Y) (by omega) (by omega)
  have o0 := as_o791 A
  have o1 : obM (siM M 791 5 (nI (al + c))) 791 3 9 = true := o0
  have o2 : obM (siM (siM M 791 5 (nI (al + c))) 791 7 (nI (max mo (pgU ρ Y)))) 791 3 9 = true := o0
  have z1 : giM (siM M 791 5 (nI (al + c))) 791 7 = nI mo := by rw [giM_ud, ud_n _ _ (by omega)]; exact a3
  have z2 : giM (siM (siM M 791 5 (nI (al + c))) 791 7 (nI (max mo (pgU ρ Y)))) 791 8 = nI fw := by rw [giM_ud, ud_n _ _ (by omega), giM_ud, ud_n _ _ (by omega)]; exact a4
  refine ⟨siM (siM (siM M 791 5 (nI (al + c))) 791 7 (nI (max mo (pgU ρ Y)))) 791 8 (nI (min fw (pgU ρ Y))), ?_, ⟨rfl, fun x hx => by rw [giM_un (by omega), giM_un (by omega), giM_un (by omega)]⟩, ?_⟩
  · unfold fX_tally
    rw [hs_ob C.1, gd1n, u0, bs1n, o0, gd1n, a1, n_add, z1, m0, bs1n, o1, gd1n, z2, m1, bs1n, o2, gd1n]
  · refine ⟨?_, ?_, ?_, ?_, by omega, by omega⟩
    · rw [giM_ud, ud_n _ _ (by omega), giM_ud, ud_n _ _ (by omega), giM_ud, ud_s]
    · rw [giM_ud, ud_n _ _ (by omega), giM_ud, ud_n _ _ (by omega), giM_ud, ud_n _ _ (by omega)]; exact a2
    · rw [giM_ud, ud_n _ _ (by omega), giM_ud, ud_s]
    · rw [giM_ud, ud_s]
theorem cDeep (A : SHP M) (hl : l < 6) (C : CC M (795 + 26 * l) ρ β Y) (V : Inv ρ β Y) (P : PG M (813 + 26 * l) n 0 g) (P2 : PG M (817 + 26 * l) m 0 k) (hn : n ≤ 24) (hm : m ≤ 24) : ∃ M', fX_deepen 791 (nI l) M = some (nI (l + 1), M') ∧ Fr M M' (795 + 26 * (l + 1)) (820 + 26 * (l + 1)) ∧ CC M' (795 + 26 * (l + 1)) ρ β Y ∧ PG M' (813 + 26 * (l + 1)) n 0 g ∧ PG M' (817 + 26 * (l + 1)) m 0 k := by
  obtain ⟨M1, k1, F1, C1⟩ := cCopy C V (HS_of A (hp_m (show l + 1 < 7 by omega))) (by omega)
  have A1 := SHP_Fr A F1 (by omega)
  have Q1 : PG M1 (813 + 26 * l) n 0 g := PG_cg P (fun a h1 h2 => F1.2 a (by omega))
  have Q2 : PG M1 (817 + 26 * l) m 0 k := PG_cg P2 (fun a h1 h2 => F1.2 a (by omega))
  obtain ⟨M2, k2, F2, R1⟩ := cPgc (PS_mx A1 (show l < 7 by omega) (Or.inl rfl)) (PS_mx A1 (show l + 1 < 7 by omega) (Or.inl rfl)) (by omega) Q1 hn
  have A2 := SHP_Fr A1 F2 (by omega)
  obtain ⟨M3, k3, F3, R2⟩ := cPgc (PS_mx A2 (show l < 7 by omega) (Or.inr rfl)) (PS_mx A2 (show l + 1 < 7 by omega) (Or.inr rfl)) (by omega) (PG_cg Q2 (fun a h1 h2 => F2.2 a (by omega))) hm
  have mk := minK_ok (M := M) (a := l + 1) (b := 6) (by omega) (by omega)
  rw [show min (l + 1) 6 = l + 1 by omega] at mk
  refine ⟨M3, ?_, ⟨F3.1.trans (F2.1.trans F1.1), fun a ha => by rw [F3.2 a (by omega), F2.2 a (by omega), F1.2 a (by omega)]⟩, CC_Fr (CC_Fr C1 F2 (by omega) (by omega)) F3 (by omega) (by omega), PG_cg R1 (fun a h1 h2 => F3.2 a (by omega)), R2⟩
  have l7 : Int32.ofNat (tgM M 792).2 - 1 = nI 6 := by
    rw [as_t792 A]
    rfl
  unfold fX_deepen
  rw [as_o791 A, gd1n, as_g791_0 A, d_nz (by omega), gd1n, as_ln792 A, gd1n, l7, show nI l + 1 = nI (l + 1) from by rw [l_1, n_add], mk, bs1n, as_o791 A, gd1n, as_g791_0 A, d_nz (by omega), gd1n, as_x792 A (show l + 1 < 7 by omega), gd1n, n_cl (a := l + 1) (by omega), zx_h A (show l + 1 < 7 by omega), d_nz (by omega), gd1n, as_x792 A (show l < 7 by omega), gd1n, n_cl (a := l) (by omega), zx_h A (show l < 7 by omega), d_nz (by omega), gd1n, hs_ob (HS_of A (hp_m (show l + 1 < 7 by omega))), gd1n, k1, bs1n, as_o791 A1, gd1n, as_g791_1 A1, d_nz (by omega), gd1n, as_x793 A1 (show l + 1 < 7 by omega), gd1n, zx_1 A1 (show l + 1 < 7 by omega), d_nz (by omega), gd1n, as_x793 A1 (show l < 7 by omega), gd1n, zx_1 A1 (show l < 7 by omega), d_nz (by omega), gd1n, ps_ob (PS_mx A1 (show l + 1 < 7 by omega) (Or.inl rfl)), gd1n, k2, bs1n, as_o791 A2, gd1n, as_g791_2 A2, d_nz (by omega), gd1n, as_x794 A2 (show l + 1 < 7 by omega), gd1n, zx_2 A2 (show l + 1 < 7 by omega), d_nz (by omega), gd1n, as_x794 A2 (show l < 7 by omega), gd1n, zx_2 A2 (show l < 7 by omega), d_nz (by omega), gd1n, ps_ob (PS_mx A2 (show l + 1 < 7 by omega) (Or.inr rfl)), gd1n, k3, bs1n]
end MX
