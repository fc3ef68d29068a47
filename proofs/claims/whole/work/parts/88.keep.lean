/-! WHAT IS KEPT FOR UNDO; the two halves of the relation -/
def PC (M : Mem) (ρ : Rul) (β o m : Nat) (T : Nat → HSt) : Prop := giM M 50 1 = nI o ∧ giM M 50 2 = nI m ∧ ∀ j, j < m → CC M (52 + 18 * ((o + j) % 40)) ρ β (T j)
def PR (M : Mem) (m : Nat) (T : Nat → HSt) : Prop := giM M 1003 25 = nI m ∧ ∀ j, j < m → RW (fun i => giM M 1018 (3893 * j + i)) (T j)
def IC (M : Mem) (ρ : Rul) (β b : Nat) (S : HSt) : Prop := giM M 1 10 = nI b ∧ (b = 1 → CC M 772 ρ β S)
def IR (M : Mem) (b : Nat) (S : HSt) : Prop := giM M 1003 33 = nI b ∧ (b = 1 → RW (giM M 1020) S)
def pm (m : Nat) : Nat := if m < 40 then m + 1 else 40
def pushT (m : Nat) (T : Nat → HSt) (S : HSt) : Nat → HSt := if m < 40 then ud T m S else fun j => if j = 39 then S else T (j + 1)
theorem pm_le (m : Nat) (h : m ≤ 40) : pm m ≤ 40 := by unfold pm; split <;> omega
theorem pushT_ok {m : Nat} {T : Nat → HSt} {S : HSt} {P : HSt → Prop} (hm : m ≤ 40) (h : ∀ j, j < m → P (T j)) (hS : P S) : ∀ j, j < pm m → P (pushT m T S j) := by
  intro j hj
  unfold pm at hj
  unfold pushT
  by_cases h1 : m < 40
  · rw [if_pos h1] at hj ⊢
    by_cases e : j = m
    · rw [e, ud_s]; exact hS
    · rw [ud_n _ _ e]; exact h j (by omega)
  · rw [if_neg h1] at hj ⊢
    by_cases e : j = 39
    · rw [if_pos e]; exact hS
    · rw [if_neg e]; exact h (j + 1) (by omega)
section KP
variable {M M' : Mem} {ρ : Rul} {β o m h lo hi : Nat} {S : HSt} {T : Nat → HSt}
theorem CC_Fr (C : CC M h ρ β S) (F : Fr M M' lo hi) (h1 : hi < h + 1 ∨ h + 17 < lo) (h2 : 7 < lo) : CC M' h ρ β S := by
  obtain ⟨H, R, hR, C1, C2, C3, C4, C5, C6⟩ := C
  refine ⟨HS_2 F.1 H, RuC_Fr R F h2, hR, ?_, ChM_Fr F (by omega) C2, ChM_Fr F (by omega) C3, ?_, ?_, ?_⟩
  · rw [F.2 (h + 1) (by omega), F.2 (h + 2) (by omega), F.2 (h + 3) (by omega), F.2 (h + 8) (by omega)]
    exact C1
  · rw [F.2 (h + 13) (by omega)]
    exact C4
  · rw [F.2 (h + 14) (by omega), F.2 (h + 15) (by omega)]
    exact C5
  · rw [F.2 (h + 16) (by omega), F.2 (h + 17) (by omega)]
    exact C6
theorem keep_m (A : SHP M) (C : CC M 32 ρ β S) (V : Inv ρ β S) (h1 : giM M 50 1 = nI o) (h2 : giM M 50 2 = nI m) (ho : o < 40) (hm : m < 40) : ∃ M1, BP_keep_32 50 32 M = some (siM M1 50 2 (nI (m + 1))) ∧ Fr M M1 (52 + 18 * ((o + m) % 40) + 1) (52 + 18 * ((o + m) % 40) + 17) ∧ CC M1 (52 + 18 * ((o + m) % 40)) ρ β S := by
  have hi : (o + m) % 40 < 40 := Nat.mod_lt _ (by omega)
  obtain ⟨M1, e, F, C1⟩ := cCopy C V (HS_of A (hp_p hi)) (by omega)
  have em : o + m - (o + m) / 40 * 40 = (o + m) % 40 := by omega
  have ho2 := hs_ob (HS_of A (hp_p hi))
  have s1 := F.1
  have g2 : giM M1 50 2 = nI m := by rw [F.2 50 (by omega)]; exact h2
  refine ⟨M1, ?_, F, C1⟩
  simp (disch := omega) only [BP_keep_32, gd1, bs1, ↓reduceIte, d_nz, d_nn, or_true, true_or, or_false, false_or, decide_true, Sum.elim_inl, Sum.elim_inr, ↓l_m1, l_0, l_1, l_2, l_3, l_4, l_5, l_6, l_7, l_8, l_9, l_10, l_16, l_17, l_18, l_20, l_23, l_24, l_30, l_31, l_32, l_39, l_40, l_41, l_48, l_57, l_58, l_59, l_60, l_63, l_90, l_97, l_98, l_99, l_100, l_102, l_103, l_104, l_107, l_109, l_112, l_115, l_116, l_117, l_120, l_122, l_126, l_166, l_180, l_240, l_255, l_640, l_999, l_2656, l_3064, l_3704, l_3708, l_3712, l_3713, l_3893, l_155720, l_1000000, n_ltT, n_ltF, n_leT, n_leF, n_eqT, n_eqF, n_eqm, n_eqm', n_mltn, n_mlen, n_nltm, n_nlem, n_mltm, n_mlem, n_add, n_mul, n_sub, n_subm, n_cl, n_ofNat, n_div, n_mod, obM_si, rdI_si, wrI_si, lnI_si, grM_si', tgM_si', obM_sa, rdI_sa, wrI_sa, lnI_sa, grM_sa', tgM_sa', obM_2 s1, rdI_2 s1, wrI_2 s1, lnI_2 s1, grM_2 s1, tgM_2 s1, as_o1 A, as_g1_0 A, as_g1_1 A, as_g1_2 A, as_g1_3 A, as_g1_4 A, as_g1_6 A, as_g1_7 A, as_g1_8 A, as_g1_9 A, as_g1_11 A, as_g1_12 A, as_g1_13 A, as_g1_14 A, as_o2 A, as_g2_0 A, as_t3 A, as_r3 A, as_w3 A, as_l3 A, as_o4 A, as_g4_0 A, as_o5 A, as_g5_0 A, as_g5_1 A, as_t6 A, as_r6 A, as_w6 A, as_l6 A, as_t7 A, as_r7 A, as_w7 A, as_l7 A, as_o8 A, as_g8_0 A, as_g8_1 A, as_t9 A, as_r9 A, as_w9 A, as_l9 A, as_t10 A, as_r10 A, as_w10 A, as_l10 A, as_o28 A, as_g28_0 A, as_g28_1 A, as_g28_2 A, as_t29 A, as_r29 A, as_w29 A, as_l29 A, as_t30 A, as_r30 A, as_w30 A, as_l30 A, as_t31 A, as_r31 A, as_w31 A, as_l31 A, as_o50 A, as_g50_0 A, as_t790 A, as_r790 A, as_w790 A, as_l790 A, as_o791 A, as_g791_0 A, as_g791_1 A, as_g791_2 A, as_o999 A, as_g999_0 A, as_g999_1 A, as_g999_2 A, as_t1000 A, as_r1000 A, as_w1000 A, as_l1000 A, as_t1001 A, as_r1001 A, as_w1001 A, as_l1001 A, as_t1002 A, as_r1002 A, as_w1002 A, as_l1002 A, as_x11 A, as_x51 A, as_x792 A, as_x793 A, as_x794 A, as_t792 A, as_ln792 A, as_s11 A, as_so A, as_sg0 A, as_sg1 A, as_sg2 A, as_sr1 A, as_sr2 A, as_sr3 A, as_p51 A, h1, h2, em, ho2, e, g2]
theorem cKeep (A : SHP M) (C : CC M 32 ρ β S) (V : Inv ρ β S) (P : PC M ρ β o m T) (ho : o < 40) (hm : m ≤ 40) : ∃ M' o', fP_keep 50 32 M = some M' ∧ Fr M M' 50 771 ∧ o' < 40 ∧ PC M' ρ β o' (pm m) (pushT m T S) := by
  obtain ⟨p1, p2, p3⟩ := P
  unfold pm pushT
  by_cases h40 : m < 40
  · rw [if_pos h40, if_pos h40]
    have hi : (o + m) % 40 < 40 := Nat.mod_lt _ (by omega)
    obtain ⟨M1, e, F, C1⟩ := keep_m A C V p1 p2 ho h40
    have F2 : Fr M1 (siM M1 50 2 (nI (m + 1))) 50 50 := Fr_si (by omega) (by omega)
    refine ⟨siM M1 50 2 (nI (m + 1)), o, ?_, Fr_tr (Fr_w F (by omega) (by omega)) (Fr_w F2 (by omega) (by omega)), ho, ?_, ?_, fun j hj => ?_⟩
    · simp (disch := omega) only [fP_keep, gd1, bs1, ↓reduceIte, d_nz, d_nn, or_true, true_or, or_false, false_or, decide_true, Sum.elim_inl, Sum.elim_inr, ↓l_m1, l_0, l_1, l_2, l_3, l_4, l_5, l_6, l_7, l_8, l_9, l_10, l_16, l_17, l_18, l_20, l_23, l_24, l_30, l_31, l_32, l_39, l_40, l_41, l_48, l_57, l_58, l_59, l_60, l_63, l_90, l_97, l_98, l_99, l_100, l_102, l_103, l_104, l_107, l_109, l_112, l_115, l_116, l_117, l_120, l_122, l_126, l_166, l_180, l_240, l_255, l_640, l_999, l_2656, l_3064, l_3704, l_3708, l_3712, l_3713, l_3893, l_155720, l_1000000, n_ltT, n_ltF, n_leT, n_leF, n_eqT, n_eqF, n_eqm, n_eqm', n_mltn, n_mlen, n_nltm, n_nlem, n_mltm, n_mlem, n_add, n_mul, n_sub, n_subm, n_cl, n_ofNat, n_div, n_mod, obM_si, rdI_si, wrI_si, lnI_si, grM_si', tgM_si', obM_sa, rdI_sa, wrI_sa, lnI_sa, grM_sa', tgM_sa', as_o1 A, as_g1_0 A, as_g1_1 A, as_g1_2 A, as_g1_3 A, as_g1_4 A, as_g1_6 A, as_g1_7 A, as_g1_8 A, as_g1_9 A, as_g1_11 A, as_g1_12 A, as_g1_13 A, as_g1_14 A, as_o2 A, as_g2_0 A, as_t3 A, as_r3 A, as_w3 A, as_l3 A, as_o4 A, as_g4_0 A, as_o5 A, as_g5_0 A, as_g5_1 A, as_t6 A, as_r6 A, as_w6 A, as_l6 A, as_t7 A, as_r7 A, as_w7 A, as_l7 A, as_o8 A, as_g8_0 A, as_g8_1 A, as_t9 A, as_r9 A, as_w9 A, as_l9 A, as_t10 A, as_r10 A, as_w10 A, as_l10 A, as_o28 A, as_g28_0 A, as_g28_1 A, as_g28_2 A, as_t29 A, as_r29 A, as_w29 A, as_l29 A, as_t30 A, as_r30 A, as_w30 A, as_l30 A, as_t31 A, as_r31 A, as_w31 A, as_l31 A, as_o50 A, as_g50_0 A, as_t790 A, as_r790 A, as_w790 A, as_l790 A, as_o791 A, as_g791_0 A, as_g791_1 A, as_g791_2 A, as_o999 A, as_g999_0 A, as_g999_1 A, as_g999_2 A, as_t1000 A, as_r1000 A, as_w1000 A, as_l1000 A, as_t1001 A, as_r1001 A, as_w1001 A, as_l1001 A, as_t1002 A, as_r1002 A, as_w1002 A, as_l1002 A, as_x11 A, as_x51 A, as_x792 A, as_x793 A, as_x794 A, as_t792 A, as_ln792 A, as_s11 A, as_so A, as_sg0 A, as_sg1 A, as_sg2 A, as_sr1 A, as_sr2 A, as_sr3 A, as_p51 A, p2, e]
    · rw [giM_ud, ud_n _ _ (by omega), F.2 50 (by omega)]; exact p1
    · rw [giM_ud, ud_s]
    · have hj40 : (o + j) % 40 < 40 := Nat.mod_lt _ (by omega)
      by_cases e : j = m
      · rw [e, ud_s]
        exact CC_Fr C1 F2 (by omega) (by omega)
      · rw [ud_n _ _ e]
        have hne : (o + j) % 40 ≠ (o + m) % 40 := by omega
        exact CC_Fr (CC_Fr (p3 j (by omega)) F (by omega) (by omega)) F2 (by omega) (by omega)
  · rw [if_neg h40, if_neg h40]
    obtain rfl : m = 40 := by omega
    have e1 : o + 1 - (o + 1) / 40 * 40 = (o + 1) % 40 := by omega
    have ho' : (o + 1) % 40 < 40 := Nat.mod_lt _ (by omega)
    obtain ⟨M0, hM0⟩ : ∃ M0, M0 = siM (siM M 50 1 (nI ((o + 1) % 40))) 50 2 (nI 39) := ⟨_, rfl⟩
    have F0 : Fr M M0 50 50 := by
      rw [hM0]
      exact Fr_tr (Fr_si (by omega) (by omega)) (Fr_si (by omega) (by omega))
    have A0 : SHP M0 := SHP_2 A F0.1 (fun a h1 h2 => F0.2 a (by omega))
    have C0 : CC M0 32 ρ β S := CC_Fr C F0 (by omega) (by omega)
    have q1 : giM M0 50 1 = nI ((o + 1) % 40) := by rw [hM0, giM_ud, ud_n _ _ (by omega), giM_ud, ud_s]
    have q2 : giM M0 50 2 = nI 39 := by rw [hM0, giM_ud, ud_s]
    obtain ⟨M1, e, F, C1⟩ := keep_m A0 C0 V q1 q2 ho' (by omega)
    have F2 : Fr M1 (siM M1 50 2 (nI (39 + 1))) 50 50 := Fr_si (by omega) (by omega)
    refine ⟨siM M1 50 2 (nI 40), (o + 1) % 40, ?_, Fr_tr (Fr_w F0 (by omega) (by omega)) (Fr_tr (Fr_w F (by omega) (by omega)) (Fr_w F2 (by omega) (by omega))), ho', ?_, ?_, fun j hj => ?_⟩
    · have e40 : nI 40 - nI 1 = nI 39 := n_sub (by omega)
      rw [hM0] at e
      simp (disch := omega) only [fP_keep, gd1, bs1, ↓reduceIte, d_nz, d_nn, or_true, true_or, or_false, false_or, decide_true, Sum.elim_inl, Sum.elim_inr, ↓l_m1, l_0, l_1, l_2, l_3, l_4, l_5, l_6, l_7, l_8, l_9, l_10, l_16, l_17, l_18, l_20, l_23, l_24, l_30, l_31, l_32, l_39, l_40, l_41, l_48, l_57, l_58, l_59, l_60, l_63, l_90, l_97, l_98, l_99, l_100, l_102, l_103, l_104, l_107, l_109, l_112, l_115, l_116, l_117, l_120, l_122, l_126, l_166, l_180, l_240, l_255, l_640, l_999, l_2656, l_3064, l_3704, l_3708, l_3712, l_3713, l_3893, l_155720, l_1000000, e40, n_ltT, n_ltF, n_leT, n_leF, n_eqT, n_eqF, n_eqm, n_eqm', n_mltn, n_mlen, n_nltm, n_nlem, n_mltm, n_mlem, n_add, n_mul, n_sub, n_subm, n_cl, n_ofNat, n_div, n_mod, obM_si, rdI_si, wrI_si, lnI_si, grM_si', tgM_si', obM_sa, rdI_sa, wrI_sa, lnI_sa, grM_sa', tgM_sa', as_o1 A, as_g1_0 A, as_g1_1 A, as_g1_2 A, as_g1_3 A, as_g1_4 A, as_g1_6 A, as_g1_7 A, as_g1_8 A, as_g1_9 A, as_g1_11 A, as_g1_12 A, as_g1_13 A, as_g1_14 A, as_o2 A, as_g2_0 A, as_t3 A, as_r3 A, as_w3 A, as_l3 A, as_o4 A, as_g4_0 A, as_o5 A, as_g5_0 A, as_g5_1 A, as_t6 A, as_r6 A, as_w6 A, as_l6 A, as_t7 A, as_r7 A, as_w7 A, as_l7 A, as_o8 A, as_g8_0 A, as_g8_1 A, as_t9 A, as_r9 A, as_w9 A, as_l9 A, as_t10 A, as_r10 A, as_w10 A, as_l10 A, as_o28 A, as_g28_0 A, as_g28_1 A, as_g28_2 A, as_t29 A, as_r29 A, as_w29 A, as_l29 A, as_t30 A, as_r30 A, as_w30 A, as_l30 A, as_t31 A, as_r31 A, as_w31 A, as_l31 A, as_o50 A, as_g50_0 A, as_t790 A, as_r790 A, as_w790 A, as_l790 A, as_o791 A, as_g791_0 A, as_g791_1 A, as_g791_2 A, as_o999 A, as_g999_0 A, as_g999_1 A, as_g999_2 A, as_t1000 A, as_r1000 A, as_w1000 A, as_l1000 A, as_t1001 A, as_r1001 A, as_w1001 A, as_l1001 A, as_t1002 A, as_r1002 A, as_w1002 A, as_l1002 A, as_x11 A, as_x51 A, as_x792 A, as_x793 A, as_x794 A, as_t792 A, as_ln792 A, as_s11 A, as_so A, as_sg0 A, as_sg1 A, as_sg2 A, as_sr1 A, as_sr2 A, as_sr3 A, as_p51 A, p1, p2, e1, giM_ud, ud_n, e]
    · rw [giM_ud, ud_n _ _ (by omega), F.2 50 (by omega)]; exact q1
    · rw [giM_ud, ud_s]
    · have hj40 : (o + 1 + j) % 40 < 40 := Nat.mod_lt _ (by omega)
      have ej : ((o + 1) % 40 + j) % 40 = (o + 1 + j) % 40 := by omega
      have e39 : ((o + 1) % 40 + 39) % 40 = (o + 40) % 40 := by omega
      show CC _ _ ρ β (if j = 39 then S else T (j + 1))
      by_cases e : j = 39
      · subst e
        rw [if_pos rfl]
        exact CC_Fr C1 F2 (by omega) (by omega)
      · rw [if_neg e, ej]
        have hne : (o + 1 + j) % 40 ≠ ((o + 1) % 40 + 39) % 40 := by omega
        have hp := p3 (j + 1) (by omega)
        rw [show o + (j + 1) = o + 1 + j by omega] at hp
        have hl : ((o + 1) % 40 + 39) % 40 < 40 := Nat.mod_lt _ (by omega)
        exact CC_Fr (CC_Fr (CC_Fr hp F0 (by omega) (by omega)) F (by omega) (by omega)) F2 (by omega) (by omega)
/-- the reference's acts change these alone -/
def RX (M M' : Mem) : Prop := M'.2 = M.2 ∧ (∀ a, a ≠ 1003 → a ≠ 1011 → a ≠ 1018 → giM M' a = giM M a) ∧ ∀ k, k ≠ 17 → k ≠ 25 → giM M' 1003 k = giM M 1003 k
theorem RX_refl (M : Mem) : RX M M := ⟨rfl, fun _ _ _ _ => rfl, fun _ _ _ => rfl⟩
theorem RX_tr {M1 M2 : Mem} (h : RX M M1) (g : RX M1 M2) : RX M M2 := ⟨g.1.trans h.1, fun a h1 h2 h3 => (g.2.1 a h1 h2 h3).trans (h.2.1 a h1 h2 h3), fun k h1 h2 => (g.2.2 k h1 h2).trans (h.2.2 k h1 h2)⟩
theorem RX_RF (F : RF M M') : RX M M' := ⟨F.1, fun a h1 h2 _ => F.2.1 a h2 h1, fun k h1 _ => F.2.2 k h1⟩
theorem RuM_RX (R : RuM M ρ) (F : RX M M') : RuM M' ρ := by
  unfold RuM
  rw [F.2.1 1007 (by omega) (by omega) (by omega), F.2.1 1008 (by omega) (by omega) (by omega), F.2.2 10 (by omega) (by omega)]
  exact R
theorem PR_RF (P : PR M m T) (F : RF M M') : PR M' m T := by
  unfold PR
  rw [F.2.2 25 (by omega), F.2.1 1018 (by omega) (by omega)]
  exact P
theorem mKeep (C : RC M ρ S) (W : Wd S) (P : PR M m T) (hm : m ≤ 40) (hT : ∀ j, j < m → Wd (T j)) : ∃ M', fM_keep 1003 M = some M' ∧ RX M M' ∧ RC M' ρ S ∧ PR M' (pm m) (pushT m T S) := by
  obtain ⟨p1, p2⟩ := P
  have H := C.1
  have fin : ∀ (M0 : Mem) (k : Nat) (U : Nat → HSt), RX M M0 → RC M0 ρ S → k < 40 → giM M0 1003 25 = nI k → (∀ j, j < k → RW (fun i => giM M0 1018 (3893 * j + i)) (U j) ∧ Wd (U j)) → ∃ M', BM_keep_51 1003 M0 = some M' ∧ RX M M' ∧ RC M' ρ S ∧ PR M' (k + 1) (ud U k S) := fun M0 k U X0 C0 hk q1 q2 => by
    have e := mkp_loop C0.1 hk q1
    generalize hN : mx M0 1018 (3893 * k) 1011 0 3893 = N at e
    have X1 : RX M0 (siM (saM M0 1018 N) 1003 25 (nI (k + 1))) := ⟨rfl, fun a h1 h2 h3 => by rw [giM_un h1, gi_san h3], fun j h1 h2 => by rw [giM_ud, ud_n _ _ h2, gi_san (by omega)]⟩
    refine ⟨_, ?_, RX_tr X0 X1, ⟨MS_2 rfl C0.1, RuM_RX C0.2.1 X1, C0.2.2.1, ?_⟩, ?_, fun j hj => ?_⟩
    · simp (disch := omega) only [BM_keep_51, gd1, bs1, ↓reduceIte, d_nz, d_nn, or_true, true_or, or_false, false_or, decide_true, Sum.elim_inl, Sum.elim_inr, ↓l_m1, l_0, l_1, l_2, l_3, l_4, l_5, l_6, l_7, l_8, l_9, l_10, l_16, l_17, l_18, l_20, l_23, l_24, l_30, l_31, l_32, l_39, l_40, l_41, l_48, l_57, l_58, l_59, l_60, l_63, l_90, l_97, l_98, l_99, l_100, l_102, l_103, l_104, l_107, l_109, l_112, l_115, l_116, l_117, l_120, l_122, l_126, l_166, l_180, l_240, l_255, l_640, l_999, l_2656, l_3064, l_3704, l_3708, l_3712, l_3713, l_3893, l_155720, l_1000000, e]
    · rw [giM_un (by omega), gi_san (by omega)]
      exact C0.2.2.2
    · rw [giM_ud, ud_s]
    · have eg : giM (siM (saM M0 1018 N) 1003 25 (nI (k + 1))) 1018 = N := by rw [giM_un (by omega), gi_sas]
      rw [eg, ← hN]
      by_cases ej : j = k
      · rw [ej, ud_s]
        refine RW_cg W C0.2.2.2 (fun i hi => ?_)
        unfold mx
        rw [if_pos (by omega)]
        congr 1
        omega
      · rw [ud_n _ _ ej]
        refine RW_cg (q2 j (by omega)).2 (q2 j (by omega)).1 (fun i hi => ?_)
        unfold mx
        rw [if_neg (by omega)]
  unfold pm pushT
  by_cases h40 : m < 40
  · rw [if_pos h40, if_pos h40]
    obtain ⟨M', e, X, C', P'⟩ := fin M m T (RX_refl M) C h40 p1 (fun j hj => ⟨p2 j hj, hT j hj⟩)
    refine ⟨M', ?_, X, C', P'⟩
    simp (disch := omega) only [fM_keep, gd1, bs1, ↓reduceIte, d_nz, d_nn, or_true, true_or, or_false, false_or, decide_true, Sum.elim_inl, Sum.elim_inr, ↓l_m1, l_0, l_1, l_2, l_3, l_4, l_5, l_6, l_7, l_8, l_9, l_10, l_16, l_17, l_18, l_20, l_23, l_24, l_30, l_31, l_32, l_39, l_40, l_41, l_48, l_57, l_58, l_59, l_60, l_63, l_90, l_97, l_98, l_99, l_100, l_102, l_103, l_104, l_107, l_109, l_112, l_115, l_116, l_117, l_120, l_122, l_126, l_166, l_180, l_240, l_255, l_640, l_999, l_2656, l_3064, l_3704, l_3708, l_3712, l_3713, l_3893, l_155720, l_1000000, n_ltT, n_ltF, n_leT, n_leF, n_eqT, n_eqF, n_eqm, n_eqm', n_mltn, n_mlen, n_nltm, n_nlem, n_mltm, n_mlem, n_add, n_mul, n_sub, n_subm, n_cl, n_ofNat, n_div, n_mod, obM_si, rdI_si, wrI_si, lnI_si, grM_si', tgM_si', obM_sa, rdI_sa, wrI_sa, lnI_sa, grM_sa', tgM_sa', ms_ob H, ms_g1 H, ms_g5 H, ms_g6 H, ms_g8 H, ms_g9 H, ms_g11 H, ms_g12 H, ms_g15 H, ms_g16 H, ms_g18 H, ms_g19 H, ms_g20 H, ms_g22 H, ms_g24 H, ms_g27 H, ms_g32 H, ms_g21 H, ms_t1 H, ms_r1 H, ms_w1 H, ms_l1 H, ms_t5 H, ms_r5 H, ms_w5 H, ms_l5 H, ms_t6 H, ms_r6 H, ms_w6 H, ms_l6 H, ms_t8 H, ms_r8 H, ms_w8 H, ms_l8 H, ms_t9 H, ms_r9 H, ms_w9 H, ms_l9 H, ms_t11 H, ms_r11 H, ms_w11 H, ms_l11 H, ms_t12 H, ms_r12 H, ms_w12 H, ms_l12 H, ms_t15 H, ms_r15 H, ms_w15 H, ms_l15 H, ms_t16 H, ms_r16 H, ms_w16 H, ms_l16 H, ms_t18 H, ms_r18 H, ms_w18 H, ms_l18 H, ms_t19 H, ms_r19 H, ms_w19 H, ms_l19 H, ms_t20 H, ms_r20 H, ms_w20 H, ms_l20 H, ms_t22 H, ms_r22 H, ms_w22 H, ms_l22 H, ms_t24 H, ms_r24 H, ms_w24 H, ms_l24 H, ms_t27 H, ms_r27 H, ms_w27 H, ms_l27 H, ms_t32 H, ms_r32 H, ms_w32 H, ms_l32 H, ms_b H, p1, e]
  · rw [if_neg h40, if_neg h40]
    obtain rfl : m = 40 := by omega
    have e1 := mks_loop 151827 3893 1000000 M H (by omega) (by omega) (by omega)
    generalize hN : (fun i => if 3893 ≤ i + 3893 ∧ i + 3893 < 155720 then giM M 1018 (i + 3893) else giM M 1018 i) = N at e1
    have sN : (saM M 1018 N).2 = M.2 := rfl
    have gN : giM (saM M 1018 N) 1003 25 = nI 40 := by rw [gi_san (by omega)]; exact p1
    have e40 : nI 40 - nI 1 = nI 39 := n_sub (by omega)
    have X0 : RX M (siM (saM M 1018 N) 1003 25 (nI 39)) := ⟨rfl, fun a h1 h2 h3 => by rw [giM_un h1, gi_san h3], fun j h1 h2 => by rw [giM_ud, ud_n _ _ h2, gi_san (by omega)]⟩
    have C0 : RC (siM (saM M 1018 N) 1003 25 (nI 39)) ρ S := ⟨MS_2 rfl C.1, RuM_RX C.2.1 X0, C.2.2.1, by rw [giM_un (by omega), gi_san (by omega)]; exact C.2.2.2⟩
    obtain ⟨M', e, X, C', P'⟩ := fin (siM (saM M 1018 N) 1003 25 (nI 39)) 39 (fun j => T (j + 1)) X0 C0 (by omega) (by rw [giM_ud, ud_s]) (fun j hj => by
      refine ⟨?_, hT (j + 1) (by omega)⟩
      refine RW_cg (hT (j + 1) (by omega)) (p2 (j + 1) (by omega)) (fun i hi => ?_)
      rw [giM_un (by omega), gi_sas, ← hN]
      show (if 3893 ≤ 3893 * j + i + 3893 ∧ 3893 * j + i + 3893 < 155720 then giM M 1018 (3893 * j + i + 3893) else giM M 1018 (3893 * j + i)) = _
      rw [if_pos (by omega)]
      congr 1
      omega)
    have eU : ud (fun j => T (j + 1)) 39 S = fun j => if j = 39 then S else T (j + 1) := rfl
    rw [eU] at P'
    refine ⟨M', ?_, X, C', P'⟩
    simp (disch := omega) only [fM_keep, gd1n, bs1n, ↓reduceIte, d_nz, d_nn, or_true, true_or, or_false, false_or, decide_true, Sum.elim_inl, Sum.elim_inr, ↓l_m1, l_0, l_1, l_2, l_3, l_4, l_5, l_6, l_7, l_8, l_9, l_10, l_16, l_17, l_18, l_20, l_23, l_24, l_30, l_31, l_32, l_39, l_40, l_41, l_48, l_57, l_58, l_59, l_60, l_63, l_90, l_97, l_98, l_99, l_100, l_102, l_103, l_104, l_107, l_109, l_112, l_115, l_116, l_117, l_120, l_122, l_126, l_166, l_180, l_240, l_255, l_640, l_999, l_2656, l_3064, l_3704, l_3708, l_3712, l_3713, l_3893, l_155720, l_1000000, e40, n_ltT, n_ltF, n_leT, n_leF, n_eqT, n_eqF, n_eqm, n_eqm', n_mltn, n_mlen, n_nltm, n_nlem, n_mltm, n_mlem, n_add, n_mul, n_sub, n_subm, n_cl, n_ofNat, n_div, n_mod, obM_2 sN, rdI_2 sN, wrI_2 sN, lnI_2 sN, grM_2 sN, tgM_2 sN, ms_ob H, ms_g1 H, ms_g5 H, ms_g6 H, ms_g8 H, ms_g9 H, ms_g11 H, ms_g12 H, ms_g15 H, ms_g16 H, ms_g18 H, ms_g19 H, ms_g20 H, ms_g22 H, ms_g24 H, ms_g27 H, ms_g32 H, ms_g21 H, ms_t1 H, ms_r1 H, ms_w1 H, ms_l1 H, ms_t5 H, ms_r5 H, ms_w5 H, ms_l5 H, ms_t6 H, ms_r6 H, ms_w6 H, ms_l6 H, ms_t8 H, ms_r8 H, ms_w8 H, ms_l8 H, ms_t9 H, ms_r9 H, ms_w9 H, ms_l9 H, ms_t11 H, ms_r11 H, ms_w11 H, ms_l11 H, ms_t12 H, ms_r12 H, ms_w12 H, ms_l12 H, ms_t15 H, ms_r15 H, ms_w15 H, ms_l15 H, ms_t16 H, ms_r16 H, ms_w16 H, ms_l16 H, ms_t18 H, ms_r18 H, ms_w18 H, ms_l18 H, ms_t19 H, ms_r19 H, ms_w19 H, ms_l19 H, ms_t20 H, ms_r20 H, ms_w20 H, ms_l20 H, ms_t22 H, ms_r22 H, ms_w22 H, ms_l22 H, ms_t24 H, ms_r24 H, ms_w24 H, ms_l24 H, ms_t27 H, ms_r27 H, ms_w27 H, ms_l27 H, ms_t32 H, ms_r32 H, ms_w32 H, ms_l32 H, ms_b H, p1, e1, gN, e]
end KP
