/-! WAYS: the reference -/
def fMo (mo : Nat) (l : List (Nat × Nat × Nat)) : Nat := l.foldl (fun a x => max a x.1) mo
def mnO (a : Option Nat) (u : Nat) : Nat := match a with
  | none => u
  | some y => min y u
def fFe (fe : Option Nat) (l : List (Nat × Nat × Nat)) : Option Nat := l.foldl (fun a x => some (mnO a x.1)) fe
def AcM (z : Int32) (M : Mem) (w mo : Nat) (fe : Option Nat) : Prop := giM M 1003 29 = nI w ∧ giM M 1003 30 = nI mo ∧ giM M 1003 31 = oN fe ∧ mo ≤ 16 ∧ (∀ y, fe = some y → y ≤ 16) ∧ giM M 1003 28 = z
section WM
variable {z : Int32} {M M1 M2 : Mem} {ρ : Rul} {β n m sd sn ki dd w mo : Nat} {fe : Option Nat} {Y : HSt} {g k : Nat → GoT} {t : StT}
theorem maxK_ok {a b : Nat} (ha : a < 1000) (hb : b < 1000) : fK_max (nI a) (nI b) M = some (nI (max a b), M) := by
  rcases Nat.lt_or_ge a b with h | h
  · rw [show max a b = b by omega]
    simp (disch := omega) only [fK_max, BK_max_10, gd1n, bs1n, ↓reduceIte, d_nz, d_nn, or_true, true_or, or_false, false_or, decide_true, Sum.elim_inl, Sum.elim_inr, ↓l_m1, l_0, l_1, l_2, l_3, l_4, l_5, l_6, l_7, l_8, l_9, l_10, l_16, l_17, l_18, l_20, l_23, l_24, l_30, l_31, l_32, l_39, l_40, l_41, l_48, l_57, l_58, l_59, l_60, l_63, l_90, l_97, l_98, l_99, l_100, l_102, l_103, l_104, l_107, l_109, l_112, l_115, l_116, l_117, l_120, l_122, l_126, l_166, l_180, l_240, l_255, l_640, l_999, l_2656, l_3064, l_3704, l_3708, l_3712, l_3713, l_3893, l_155720, l_1000000, n_ltT, n_ltF, n_leT, n_leF, n_eqT, n_eqF, n_eqm, n_eqm', n_mltn, n_mlen, n_nltm, n_nlem, n_mltm, n_mlem, n_add, n_mul, n_sub, n_subm, n_cl, n_ofNat, n_div, n_mod, obM_si, rdI_si, wrI_si, lnI_si, grM_si', tgM_si', obM_sa, rdI_sa, wrI_sa, lnI_sa, grM_sa', tgM_sa']
  · rw [show max a b = a by omega]
    simp (disch := omega) only [fK_max, BK_max_10, gd1n, bs1n, ↓reduceIte, d_nz, d_nn, or_true, true_or, or_false, false_or, decide_true, Sum.elim_inl, Sum.elim_inr, ↓l_m1, l_0, l_1, l_2, l_3, l_4, l_5, l_6, l_7, l_8, l_9, l_10, l_16, l_17, l_18, l_20, l_23, l_24, l_30, l_31, l_32, l_39, l_40, l_41, l_48, l_57, l_58, l_59, l_60, l_63, l_90, l_97, l_98, l_99, l_100, l_102, l_103, l_104, l_107, l_109, l_112, l_115, l_116, l_117, l_120, l_122, l_126, l_166, l_180, l_240, l_255, l_640, l_999, l_2656, l_3064, l_3704, l_3708, l_3712, l_3713, l_3893, l_155720, l_1000000, n_ltT, n_ltF, n_leT, n_leF, n_eqT, n_eqF, n_eqm, n_eqm', n_mltn, n_mlen, n_nltm, n_nlem, n_mltm, n_mlem, n_add, n_mul, n_sub, n_subm, n_cl, n_ofNat, n_div, n_mod, obM_si, rdI_si, wrI_si, lnI_si, grM_si', tgM_si', obM_sa, rdI_sa, wrI_sa, lnI_sa, grM_sa', tgM_sa']
theorem minK_ok {a b : Nat} (ha : a < 1000) (hb : b < 1000) : fK_min (nI a) (nI b) M = some (nI (min a b), M) := by
  rcases Nat.lt_or_ge b a with h | h
  · rw [show min a b = b by omega]
    simp (disch := omega) only [fK_min, BK_min_10, gd1n, bs1n, ↓reduceIte, d_nz, d_nn, or_true, true_or, or_false, false_or, decide_true, Sum.elim_inl, Sum.elim_inr, ↓l_m1, l_0, l_1, l_2, l_3, l_4, l_5, l_6, l_7, l_8, l_9, l_10, l_16, l_17, l_18, l_20, l_23, l_24, l_30, l_31, l_32, l_39, l_40, l_41, l_48, l_57, l_58, l_59, l_60, l_63, l_90, l_97, l_98, l_99, l_100, l_102, l_103, l_104, l_107, l_109, l_112, l_115, l_116, l_117, l_120, l_122, l_126, l_166, l_180, l_240, l_255, l_640, l_999, l_2656, l_3064, l_3704, l_3708, l_3712, l_3713, l_3893, l_155720, l_1000000, n_ltT, n_ltF, n_leT, n_leF, n_eqT, n_eqF, n_eqm, n_eqm', n_mltn, n_mlen, n_nltm, n_nlem, n_mltm, n_mlem, n_add, n_mul, n_sub, n_subm, n_cl, n_ofNat, n_div, n_mod, obM_si, rdI_si, wrI_si, lnI_si, grM_si', tgM_si', obM_sa, rdI_sa, wrI_sa, lnI_sa, grM_sa', tgM_sa']
  · rw [show min a b = a by omega]
    simp (disch := omega) only [fK_min, BK_min_10, gd1n, bs1n, ↓reduceIte, d_nz, d_nn, or_true, true_or, or_false, false_or, decide_true, Sum.elim_inl, Sum.elim_inr, ↓l_m1, l_0, l_1, l_2, l_3, l_4, l_5, l_6, l_7, l_8, l_9, l_10, l_16, l_17, l_18, l_20, l_23, l_24, l_30, l_31, l_32, l_39, l_40, l_41, l_48, l_57, l_58, l_59, l_60, l_63, l_90, l_97, l_98, l_99, l_100, l_102, l_103, l_104, l_107, l_109, l_112, l_115, l_116, l_117, l_120, l_122, l_126, l_166, l_180, l_240, l_255, l_640, l_999, l_2656, l_3064, l_3704, l_3708, l_3712, l_3713, l_3893, l_155720, l_1000000, n_ltT, n_ltF, n_leT, n_leF, n_eqT, n_eqF, n_eqm, n_eqm', n_mltn, n_mlen, n_nltm, n_nlem, n_mltm, n_mlem, n_add, n_mul, n_sub, n_subm, n_cl, n_ofNat, n_div, n_mod, obM_si, rdI_si, wrI_si, lnI_si, grM_si', tgM_si', obM_sa, rdI_sa, wrI_sa, lnI_sa, grM_sa', tgM_sa']
theorem pgU_le (hR : RuOK ρ) : pgU ρ Y ≤ 16 := by
  have hb := ru_b hR
  have key : ∀ n, sm (us1 Y) n ≤ n := by
    intro n
    induction n with
    | zero => exact Nat.le_refl _
    | succ n ih =>
      rw [sm_s]
      have : us1 Y n ≤ 1 := by
        unfold us1
        split <;> omega
      omega
  have := key (rP ρ)
  unfold pgU
  omega
theorem mEw (C : RC M ρ Y) (V : Inv ρ β Y) (a : AcM z M w mo fe) : ∃ M', fM_endWay 1003 M = some M' ∧ M'.2 = M.2 ∧ (∀ x, x ≠ 1003 → giM M' x = giM M x) ∧ (∀ j, j ≠ 30 → j ≠ 31 → giM M' 1003 j = giM M 1003 j) ∧ AcM z M' w (max mo (pgU ρ Y)) (some (mnO fe (pgU ρ Y))) := by
  obtain ⟨a1, a2, a3, a4, a5, a6⟩ := a
  have H := C.1
  have hu := pgU_le (Y := Y) C.2.2.1
  have u0 : fM_pagesInUse 1003 M = some (nI (pgU ρ Y), M) := mUse C V
  have m0 := maxK_ok (M := M) (a := mo) (b := pgU ρ Y) (by omega) (by omega)
  have X1 : RZ M (siM M 1003 30 (nI (max mo (pgU ρ Y)))) := RZ_fi (by omega)
  have C1 : RC (siM M 1003 30 (nI (max mo (pgU ρ Y)))) ρ Y := RC_RZ C X1 (by rw [giM_un (by omega)]; exact C.2.2.2)
  have H1 := C1.1
  have u1 : fM_pagesInUse 1003 (siM M 1003 30 (nI (max mo (pgU ρ Y)))) = some (nI (pgU ρ Y), siM M 1003 30 (nI (max mo (pgU ρ Y)))) := mUse C1 V
  have y31 : giM (siM M 1003 30 (nI (max mo (pgU ρ Y)))) 1003 31 = oN fe := by rw [giM_ud, ud_n _ _ (by omega)]; exact a3
  have fin : ∀ v, v ≤ 16 → mnO fe (pgU ρ Y) = v → AcM z (siM (siM M 1003 30 (nI (max mo (pgU ρ Y)))) 1003 31 (nI v)) w (max mo (pgU ρ Y)) (some (mnO fe (pgU ρ Y))) := fun v hv e => by
    rw [e]
    exact ⟨by rw [giM_ud, ud_n _ _ (by omega), giM_ud, ud_n _ _ (by omega)]; exact a1, by rw [giM_ud, ud_n _ _ (by omega), giM_ud, ud_s], by rw [giM_ud, ud_s]; rfl, by omega, fun y hy => by obtain rfl := Option.some.inj hy; exact hv, by rw [giM_ud, ud_n _ _ (by omega), giM_ud, ud_n _ _ (by omega)]; exact a6⟩
  have fr : ∀ v, (∀ x, x ≠ 1003 → giM (siM (siM M 1003 30 (nI (max mo (pgU ρ Y)))) 1003 31 (nI v)) x = giM M x) ∧ (∀ j, j ≠ 30 → j ≠ 31 → giM (siM (siM M 1003 30 (nI (max mo (pgU ρ Y)))) 1003 31 (nI v)) 1003 j = giM M 1003 j) := fun v => ⟨fun x h => by rw [giM_un h, giM_un h], fun j h1 h2 => by rw [giM_ud, ud_n _ _ h2, giM_ud, ud_n _ _ h1]⟩
  cases fe with
  | none =>
    refine ⟨siM (siM M 1003 30 (nI (max mo (pgU ρ Y)))) 1003 31 (nI (pgU ρ Y)), ?_, rfl, (fr _).1, (fr _).2, fin _ hu rfl⟩
    unfold fM_endWay BM_endWay_42
    rw [ms_ob H, gd1n, u0, bs1n, a2, m0, bs1n, ms_ob H, gd1n, y31, if_pos (show oN none = -1 from rfl), u1, bs1n, ms_ob H1, gd1n]
  | some y =>
    have hy := a5 y rfl
    have m1 := minK_ok (M := siM M 1003 30 (nI (max mo (pgU ρ Y)))) (a := y) (b := pgU ρ Y) (by omega) (by omega)
    refine ⟨siM (siM M 1003 30 (nI (max mo (pgU ρ Y)))) 1003 31 (nI (min y (pgU ρ Y))), ?_, rfl, (fr _).1, (fr _).2, fin _ (by omega) rfl⟩
    unfold fM_endWay BM_endWay_42
    rw [ms_ob H, gd1n, u0, bs1n, a2, m0, bs1n, ms_ob H, gd1n, y31, if_neg (show ¬ oN (some y) = -1 from of_eq_false (n_eqm (show y < 2147483648 by omega))), u1, bs1n, show oN (some y) = nI y from rfl, m1, bs1n, ms_ob H1, gd1n]
end WM
