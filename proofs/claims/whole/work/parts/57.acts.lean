/-! LOOPS -/
def fr {α : Type} (g : Nat → α → α) : Nat → α → α
  | 0, a => a
  | k + 1, a => g k (fr g k a)
theorem loop_ex {α R : Type} {L : Nat → Nat → α → Option R} {n : Nat} (P : Nat → α → Prop) (Q : R → Prop) (hs : ∀ f i a, i < n → P i a → ∃ a', L (f + 1) i a = L f (i + 1) a' ∧ P (i + 1) a') (he : ∀ f a, P n a → ∃ r, L (f + 1) n a = some r ∧ Q r) : ∀ (k f i : Nat) (a : α), i + k = n → k < f → P i a → ∃ r, L f i a = some r ∧ Q r := by
  intro k
  induction k with
  | zero =>
    intro f i a hi hf h
    obtain ⟨g, rfl⟩ : ∃ g, f = g + 1 := ⟨f - 1, by omega⟩
    obtain rfl : i = n := by omega
    exact he g a h
  | succ k ih =>
    intro f i a hi hf h
    obtain ⟨g, rfl⟩ : ∃ g, f = g + 1 := ⟨f - 1, by omega⟩
    obtain ⟨a', e, h'⟩ := hs g i a (by omega) h
    rw [e]
    exact ih g (i + 1) a' (by omega) (by omega) h'
theorem loop_fr {α γ R : Type} {L : Nat → Nat → γ → Option R} {n : Nat} {g : Nat → α → α} {a0 : α} (c : α → γ) {r : R} (hs : ∀ f i, i < n → L (f + 1) i (c (fr g i a0)) = L f (i + 1) (c (g i (fr g i a0)))) (he : ∀ f, L (f + 1) n (c (fr g n a0)) = some r) {f : Nat} (hf : n < f) : L f 0 (c a0) = some r := by
  obtain ⟨r', e, rfl⟩ := loop_ex (L := L) (n := n) (fun i a => a = c (fr g i a0)) (fun x => x = r) (fun f i a hi h => ⟨_, by rw [h]; exact hs f i hi, rfl⟩) (fun f a h => ⟨r, by rw [h]; exact he f, rfl⟩) n f 0 (c a0) (by omega) hf rfl
  exact e
/-! SEND, TICK, TURN -/
def aHome (ρ : Rul) (t p : Nat) (S : HSt) : HSt := if bl S (48 + 16 * t + p) = [] then S else if kd S p = 3 ∧ usd ρ (oHome t p S) p = 0 then oEmpty p (oHome t p S) else oHome t p S
def aHomes (ρ : Rul) (t : Nat) (S : HSt) : HSt := fr (aHome ρ t) (rP ρ) S
def aCnt (ρ : Rul) (t : Nat) (S : HSt) : Nat := fr (fun p n => n + (bl (fr (aHome ρ t) p S) (48 + 16 * t + p)).length) (rP ρ) 0
def aQ1 (t p : Nat) (S : HSt) : HSt := if kd S p = 2 ∧ ow S p = t ∧ 0 < lst S p then oEnq p S else S
def aQ2 (ρ : Rul) (t p : Nat) (S : HSt) : HSt := if kd S p = 1 ∧ ow S p = t ∧ usd ρ S p = 0 ∧ 1 < (qu S (6 * ow S p + cl S p)).length then oEmpty p S else S
def aTick (ρ : Rul) (t : Nat) (S : HSt) : HSt := fr (aQ2 ρ t) (rP ρ) (fr (aQ1 t) (rP ρ) (aHomes ρ t S))
def aT1 (ρ : Rul) (t p : Nat) (S : HSt) : HSt := if (kd S p = 1 ∨ kd S p = 2) ∧ ow S p = t then (if usd ρ S p = 0 then oEmpty p S else oAband p S) else S
def aTurns (ρ : Rul) (t : Nat) (S : HSt) : HSt := fr (aT1 ρ t) (rP ρ) (aHomes ρ t S)
def oLv (t v : Nat) (S : HSt) : HSt := wlv S (ud (lv S) t v)
def aTurn (ρ : Rul) (t : Nat) (S : HSt) : HSt := if lv S t = 1 then oLv t 0 (aTurns ρ t S) else oLv t 1 S
section CA
variable {M : Mem} {h : Nat} {ρ : Rul} {β : Nat} {S : HSt} {p t b l q : Nat}
theorem usd_le (hR : RuOK ρ) (V : Inv ρ β S) (hp : p < 16) : usd ρ S p ≤ 40 := by
  have := cut_le hR V.1 hp
  unfold usd
  omega
theorem inv_aHome (ht : t < 4) (hp : p < 16) (V : Inv ρ β S) : Inv ρ β (aHome ρ t p S) := by
  unfold aHome
  by_cases h0 : bl S (48 + 16 * t + p) = []
  · rw [if_pos h0]; exact V
  · rw [if_neg h0]
    have V1 := inv_home ht hp V
    by_cases h3 : kd S p = 3 ∧ usd ρ (oHome t p S) p = 0
    · rw [if_pos h3]; exact inv_empty hp h3.2 V1
    · rw [if_neg h3]; exact V1
theorem cHome (C : CC M h ρ β S) (V : Inv ρ β S) (ht : t < rT ρ) (hp : p < 16) : ∃ M', fH_goHome h (nI t) (nI p) M = some (nI (bl S (48 + 16 * t + p)).length, M') ∧ Fr M M' (h + 1) (h + 13) ∧ CC M' h ρ β (aHome ρ t p S) ∧ Inv ρ β (aHome ρ t p S) := by
  have H := C.1
  have hb := hs_b H
  have hR := ru_b C.2.2.1
  have hm := cv_m C (l := 48 + 16 * t + p) (by omega)
  have hl := bl_len C.2.2.1 V (l := 48 + 16 * t + p) (by omega)
  have VA := inv_aHome (t := t) (by omega) hp V
  revert VA
  unfold aHome
  by_cases h0 : bl S (48 + 16 * t + p) = []
  · rw [if_pos h0]
    intro VA
    refine ⟨M, ?_, Fr_refl _ _ _, C, V⟩
    rw [h0] at hm ⊢
    simp (disch := omega) only [fH_goHome, fH_outboxOf, gd1, bs1, ↓reduceIte, d_nz, d_nn, or_true, true_or, or_false, false_or, decide_true, Sum.elim_inl, Sum.elim_inr, ↓l_m1, l_0, l_1, l_2, l_3, l_4, l_5, l_6, l_7, l_8, l_9, l_10, l_16, l_17, l_18, l_20, l_23, l_24, l_30, l_31, l_32, l_39, l_40, l_41, l_48, l_57, l_58, l_59, l_60, l_63, l_90, l_97, l_98, l_99, l_100, l_102, l_103, l_104, l_107, l_109, l_112, l_115, l_116, l_117, l_120, l_122, l_126, l_166, l_180, l_240, l_255, l_640, l_999, l_2656, l_3064, l_3704, l_3708, l_3712, l_3713, l_3893, l_155720, l_1000000, n_ltT, n_ltF, n_leT, n_leF, n_eqT, n_eqF, n_eqm, n_eqm', n_mltn, n_mlen, n_nltm, n_nlem, n_mltm, n_mlem, n_add, n_mul, n_sub, n_subm, n_cl, n_ofNat, n_div, n_mod, obM_si, rdI_si, wrI_si, lnI_si, grM_si', tgM_si', obM_sa, rdI_sa, wrI_sa, lnI_sa, grM_sa', tgM_sa', hs_ob H, hs_g0 H, hs_g1 H, hs_g2 H, hs_g3 H, hs_g4 H, hs_g5 H, hs_g6 H, hs_g7 H, hs_g8 H, hs_t1 H, hs_r1 H, hs_w1 H, hs_l1 H, hs_t2 H, hs_r2 H, hs_w2 H, hs_l2 H, hs_t3 H, hs_r3 H, hs_w3 H, hs_l3 H, hs_t14 H, hs_r14 H, hs_w14 H, hs_l14 H, hs_t15 H, hs_r15 H, hs_w15 H, hs_l15 H, hs_ob4 H, hs_g4_0 H, hs_t5 H, hs_r5 H, hs_w5 H, hs_l5 H, hs_g4_1 H, hs_t6 H, hs_r6 H, hs_w6 H, hs_l6 H, hs_g4_2 H, hs_t7 H, hs_r7 H, hs_w7 H, hs_l7 H, hs_g4_3 H, hs_t8 H, hs_r8 H, hs_w8 H, hs_l8 H, hs_ob9 H, hs_g9_0 H, hs_t10 H, hs_r10 H, hs_w10 H, hs_l10 H, hs_g9_1 H, hs_t11 H, hs_r11 H, hs_w11 H, hs_l11 H, hs_g9_2 H, hs_t12 H, hs_r12 H, hs_w12 H, hs_l12 H, hs_g9_3 H, hs_t13 H, hs_r13 H, hs_w13 H, hs_l13 H, hs_ob16 H, hs_g16 H, hs_t17 H, hs_r17 H, hs_w17 H, hs_l17 H, hs_ob5 H, hs_g50 H, hs_g51 H, hs_tu6 H, hs_ru6 H, hs_wu6 H, hs_lu6 H, hs_tu7 H, hs_ru7 H, hs_wu7 H, hs_lu7 H, mul3, mul6, mul16, mul40, mul100, Nat.add_zero, hm, List.length_nil]
  · rw [if_neg h0]
    have hl0 : 0 < (bl S (48 + 16 * t + p)).length := List.length_pos_iff.mpr h0
    obtain ⟨M1, e1, F1, C1⟩ := cMove C V (l := 48 + 16 * t + p) (l' := 3 * p + 2) (by omega) (by omega) (by omega) (by rw [pl_b hp, pl_3 hp (by omega)])
    have V1 : Inv ρ β (oHome t p S) := inv_home (by omega) hp V
    have C1 : CC M1 h ρ β (oHome t p S) := C1
    have s1 := F1.1
    have u1 := usedOf_ok C1 V1 hp
    have hu := usd_le C.2.2.1 V1 hp
    have o1 := cv_o C1 hp
    have o1 : giM M1 (h + 2) p = oI S p := o1
    by_cases h3 : kd S p = 3
    · have o2 : giM M1 (h + 2) p = mI := o1.trans (oI_m (by omega))
      by_cases h4 : usd ρ (oHome t p S) p = 0
      · obtain ⟨M2, e2, F2, C2⟩ := cVac C1 hp (show kd S p ≠ 1 by omega)
        have eq : oVac p (oHome t p S) = oEmpty p (oHome t p S) := by
          unfold oEmpty oLeave
          rw [if_neg (show ¬ kd (oHome t p S) p = 1 from (show ¬ kd S p = 1 by omega))]
          rfl
        rw [if_pos ⟨h3, h4⟩]
        intro VA
        rw [eq] at C2
        refine ⟨M2, ?_, Fr_tr (Fr_w F1 (by omega) (by omega)) F2, C2, VA⟩
        rw [h4] at u1
        simp (disch := omega) only [fH_goHome, fH_outboxOf, fH_listOf, gd1, bs1, ↓reduceIte, d_nz, d_nn, or_true, true_or, or_false, false_or, decide_true, Sum.elim_inl, Sum.elim_inr, ↓l_m1, l_0, l_1, l_2, l_3, l_4, l_5, l_6, l_7, l_8, l_9, l_10, l_16, l_17, l_18, l_20, l_23, l_24, l_30, l_31, l_32, l_39, l_40, l_41, l_48, l_57, l_58, l_59, l_60, l_63, l_90, l_97, l_98, l_99, l_100, l_102, l_103, l_104, l_107, l_109, l_112, l_115, l_116, l_117, l_120, l_122, l_126, l_166, l_180, l_240, l_255, l_640, l_999, l_2656, l_3064, l_3704, l_3708, l_3712, l_3713, l_3893, l_155720, l_1000000, n_ltT, n_ltF, n_leT, n_leF, n_eqT, n_eqF, n_eqm, n_eqm', n_mltn, n_mlen, n_nltm, n_nlem, n_mltm, n_mlem, n_add, n_mul, n_sub, n_subm, n_cl, n_ofNat, n_div, n_mod, obM_si, rdI_si, wrI_si, lnI_si, grM_si', tgM_si', obM_sa, rdI_sa, wrI_sa, lnI_sa, grM_sa', tgM_sa', obM_2 s1, rdI_2 s1, wrI_2 s1, lnI_2 s1, grM_2 s1, tgM_2 s1, hs_ob H, hs_g0 H, hs_g1 H, hs_g2 H, hs_g3 H, hs_g4 H, hs_g5 H, hs_g6 H, hs_g7 H, hs_g8 H, hs_t1 H, hs_r1 H, hs_w1 H, hs_l1 H, hs_t2 H, hs_r2 H, hs_w2 H, hs_l2 H, hs_t3 H, hs_r3 H, hs_w3 H, hs_l3 H, hs_t14 H, hs_r14 H, hs_w14 H, hs_l14 H, hs_t15 H, hs_r15 H, hs_w15 H, hs_l15 H, hs_ob4 H, hs_g4_0 H, hs_t5 H, hs_r5 H, hs_w5 H, hs_l5 H, hs_g4_1 H, hs_t6 H, hs_r6 H, hs_w6 H, hs_l6 H, hs_g4_2 H, hs_t7 H, hs_r7 H, hs_w7 H, hs_l7 H, hs_g4_3 H, hs_t8 H, hs_r8 H, hs_w8 H, hs_l8 H, hs_ob9 H, hs_g9_0 H, hs_t10 H, hs_r10 H, hs_w10 H, hs_l10 H, hs_g9_1 H, hs_t11 H, hs_r11 H, hs_w11 H, hs_l11 H, hs_g9_2 H, hs_t12 H, hs_r12 H, hs_w12 H, hs_l12 H, hs_g9_3 H, hs_t13 H, hs_r13 H, hs_w13 H, hs_l13 H, hs_ob16 H, hs_g16 H, hs_t17 H, hs_r17 H, hs_w17 H, hs_l17 H, hs_ob5 H, hs_g50 H, hs_g51 H, hs_tu6 H, hs_ru6 H, hs_wu6 H, hs_lu6 H, hs_tu7 H, hs_ru7 H, hs_wu7 H, hs_lu7 H, mul3, mul6, mul16, mul40, mul100, Nat.add_zero, hm, e1, o2, u1, e2, BH_goHome_62]
      · rw [if_neg (fun q => h4 q.2)]
        intro VA
        refine ⟨M1, ?_, Fr_w F1 (by omega) (by omega), C1, VA⟩
        simp (disch := omega) only [fH_goHome, fH_outboxOf, fH_listOf, gd1, bs1, ↓reduceIte, d_nz, d_nn, or_true, true_or, or_false, false_or, decide_true, Sum.elim_inl, Sum.elim_inr, ↓l_m1, l_0, l_1, l_2, l_3, l_4, l_5, l_6, l_7, l_8, l_9, l_10, l_16, l_17, l_18, l_20, l_23, l_24, l_30, l_31, l_32, l_39, l_40, l_41, l_48, l_57, l_58, l_59, l_60, l_63, l_90, l_97, l_98, l_99, l_100, l_102, l_103, l_104, l_107, l_109, l_112, l_115, l_116, l_117, l_120, l_122, l_126, l_166, l_180, l_240, l_255, l_640, l_999, l_2656, l_3064, l_3704, l_3708, l_3712, l_3713, l_3893, l_155720, l_1000000, n_ltT, n_ltF, n_leT, n_leF, n_eqT, n_eqF, n_eqm, n_eqm', n_mltn, n_mlen, n_nltm, n_nlem, n_mltm, n_mlem, n_add, n_mul, n_sub, n_subm, n_cl, n_ofNat, n_div, n_mod, obM_si, rdI_si, wrI_si, lnI_si, grM_si', tgM_si', obM_sa, rdI_sa, wrI_sa, lnI_sa, grM_sa', tgM_sa', obM_2 s1, rdI_2 s1, wrI_2 s1, lnI_2 s1, grM_2 s1, tgM_2 s1, hs_ob H, hs_g0 H, hs_g1 H, hs_g2 H, hs_g3 H, hs_g4 H, hs_g5 H, hs_g6 H, hs_g7 H, hs_g8 H, hs_t1 H, hs_r1 H, hs_w1 H, hs_l1 H, hs_t2 H, hs_r2 H, hs_w2 H, hs_l2 H, hs_t3 H, hs_r3 H, hs_w3 H, hs_l3 H, hs_t14 H, hs_r14 H, hs_w14 H, hs_l14 H, hs_t15 H, hs_r15 H, hs_w15 H, hs_l15 H, hs_ob4 H, hs_g4_0 H, hs_t5 H, hs_r5 H, hs_w5 H, hs_l5 H, hs_g4_1 H, hs_t6 H, hs_r6 H, hs_w6 H, hs_l6 H, hs_g4_2 H, hs_t7 H, hs_r7 H, hs_w7 H, hs_l7 H, hs_g4_3 H, hs_t8 H, hs_r8 H, hs_w8 H, hs_l8 H, hs_ob9 H, hs_g9_0 H, hs_t10 H, hs_r10 H, hs_w10 H, hs_l10 H, hs_g9_1 H, hs_t11 H, hs_r11 H, hs_w11 H, hs_l11 H, hs_g9_2 H, hs_t12 H, hs_r12 H, hs_w12 H, hs_l12 H, hs_g9_3 H, hs_t13 H, hs_r13 H, hs_w13 H, hs_l13 H, hs_ob16 H, hs_g16 H, hs_t17 H, hs_r17 H, hs_w17 H, hs_l17 H, hs_ob5 H, hs_g50 H, hs_g51 H, hs_tu6 H, hs_ru6 H, hs_wu6 H, hs_lu6 H, hs_tu7 H, hs_ru7 H, hs_wu7 H, hs_lu7 H, mul3, mul6, mul16, mul40, mul100, Nat.add_zero, hm, e1, o2, u1, BH_goHome_62]
    · rw [if_neg (fun q => h3 q.1)]
      intro VA
      have hk : kd S p = 1 ∨ kd S p = 2 := by
        have hk3 := (V.1 p hp).1
        by_cases hk0 : kd S p = 0
        · exact absurd ((ct_nil hp V.2.1 (cut_0 hk0)).2 t (by omega)) h0
        · omega
      have o2 : giM M1 (h + 2) p = nI (ow S p) := o1.trans (oI_n hk)
      have ho := (V.1 p hp).2.2.1 hk
      refine ⟨M1, ?_, Fr_w F1 (by omega) (by omega), C1, VA⟩
      simp (disch := omega) only [fH_goHome, fH_outboxOf, fH_listOf, gd1, bs1, ↓reduceIte, d_nz, d_nn, or_true, true_or, or_false, false_or, decide_true, Sum.elim_inl, Sum.elim_inr, ↓l_m1, l_0, l_1, l_2, l_3, l_4, l_5, l_6, l_7, l_8, l_9, l_10, l_16, l_17, l_18, l_20, l_23, l_24, l_30, l_31, l_32, l_39, l_40, l_41, l_48, l_57, l_58, l_59, l_60, l_63, l_90, l_97, l_98, l_99, l_100, l_102, l_103, l_104, l_107, l_109, l_112, l_115, l_116, l_117, l_120, l_122, l_126, l_166, l_180, l_240, l_255, l_640, l_999, l_2656, l_3064, l_3704, l_3708, l_3712, l_3713, l_3893, l_155720, l_1000000, n_ltT, n_ltF, n_leT, n_leF, n_eqT, n_eqF, n_eqm, n_eqm', n_mltn, n_mlen, n_nltm, n_nlem, n_mltm, n_mlem, n_add, n_mul, n_sub, n_subm, n_cl, n_ofNat, n_div, n_mod, obM_si, rdI_si, wrI_si, lnI_si, grM_si', tgM_si', obM_sa, rdI_sa, wrI_sa, lnI_sa, grM_sa', tgM_sa', obM_2 s1, rdI_2 s1, wrI_2 s1, lnI_2 s1, grM_2 s1, tgM_2 s1, hs_ob H, hs_g0 H, hs_g1 H, hs_g2 H, hs_g3 H, hs_g4 H, hs_g5 H, hs_g6 H, hs_g7 H, hs_g8 H, hs_t1 H, hs_r1 H, hs_w1 H, hs_l1 H, hs_t2 H, hs_r2 H, hs_w2 H, hs_l2 H, hs_t3 H, hs_r3 H, hs_w3 H, hs_l3 H, hs_t14 H, hs_r14 H, hs_w14 H, hs_l14 H, hs_t15 H, hs_r15 H, hs_w15 H, hs_l15 H, hs_ob4 H, hs_g4_0 H, hs_t5 H, hs_r5 H, hs_w5 H, hs_l5 H, hs_g4_1 H, hs_t6 H, hs_r6 H, hs_w6 H, hs_l6 H, hs_g4_2 H, hs_t7 H, hs_r7 H, hs_w7 H, hs_l7 H, hs_g4_3 H, hs_t8 H, hs_r8 H, hs_w8 H, hs_l8 H, hs_ob9 H, hs_g9_0 H, hs_t10 H, hs_r10 H, hs_w10 H, hs_l10 H, hs_g9_1 H, hs_t11 H, hs_r11 H, hs_w11 H, hs_l11 H, hs_g9_2 H, hs_t12 H, hs_r12 H, hs_w12 H, hs_l12 H, hs_g9_3 H, hs_t13 H, hs_r13 H, hs_w13 H, hs_l13 H, hs_ob16 H, hs_g16 H, hs_t17 H, hs_r17 H, hs_w17 H, hs_l17 H, hs_ob5 H, hs_g50 H, hs_g51 H, hs_tu6 H, hs_ru6 H, hs_wu6 H, hs_lu6 H, hs_tu7 H, hs_ru7 H, hs_wu7 H, hs_lu7 H, mul3, mul6, mul16, mul40, mul100, Nat.add_zero, hm, e1, o2, BH_goHome_62]
/-- a loop of acts over pages -/
theorem cLoop {g : Nat → HSt → HSt} {L : Nat → Nat → Mem → Option Mem} {n f : Nat} (C : CC M h ρ β S) (V : Inv ρ β S) (hf : n < f) (hs : ∀ f i M S, i < n → CC M h ρ β S → Inv ρ β S → ∃ M', L (f + 1) i M = L f (i + 1) M' ∧ Fr M M' (h + 1) (h + 13) ∧ CC M' h ρ β (g i S) ∧ Inv ρ β (g i S)) (he : ∀ f M S, CC M h ρ β S → L (f + 1) n M = some M) : ∃ M', L f 0 M = some M' ∧ Fr M M' (h + 1) (h + 13) ∧ CC M' h ρ β (fr g n S) ∧ Inv ρ β (fr g n S) := by
  have key := loop_ex (L := L) (n := n) (fun i M' => Fr M M' (h + 1) (h + 13) ∧ CC M' h ρ β (fr g i S) ∧ Inv ρ β (fr g i S)) (fun M' => Fr M M' (h + 1) (h + 13) ∧ CC M' h ρ β (fr g n S) ∧ Inv ρ β (fr g n S))
    (fun f i a hi hP => by
      obtain ⟨M', e, F, C', V'⟩ := hs f i a _ hi hP.2.1 hP.2.2
      exact ⟨M', e, Fr_tr hP.1 F, C', V'⟩)
    (fun f a hP => ⟨a, he f a _ hP.2.1, hP⟩) n f 0 M (by omega) hf ⟨Fr_refl _ _ _, C, V⟩
  exact key
theorem cSend (C : CC M h ρ β S) (V : Inv ρ β S) (ht : t < rT ρ) : ∃ M', fH_sendAll h (nI t) M = some (nI (aCnt ρ t S), M') ∧ Fr M M' (h + 1) (h + 13) ∧ CC M' h ρ β (aHomes ρ t S) ∧ Inv ρ β (aHomes ρ t S) := by
  have hR := ru_b C.2.2.1
  have key := loop_ex (L := fun f i (a : Int32 × Mem) => LH_sendAll_4 f h (nI t) a.1 (nI i) a.2) (n := rP ρ) (fun i a => a.1 = nI (fr (fun p n => n + (bl (fr (aHome ρ t) p S) (48 + 16 * t + p)).length) i 0) ∧ Fr M a.2 (h + 1) (h + 13) ∧ CC a.2 h ρ β (fr (aHome ρ t) i S) ∧ Inv ρ β (fr (aHome ρ t) i S)) (fun a => a.1 = nI (aCnt ρ t S) ∧ Fr M a.2 (h + 1) (h + 13) ∧ CC a.2 h ρ β (aHomes ρ t S) ∧ Inv ρ β (aHomes ρ t S))
    (fun f i a hi hP => by
      obtain ⟨a1, a2⟩ := a
      obtain ⟨h1, h2, h3, h4⟩ := hP
      have h3 : CC a2 h ρ β (fr (aHome ρ t) i S) := h3
      obtain rfl : a1 = _ := h1
      obtain ⟨M', e, F, C', V'⟩ := cHome h3 h4 ht (p := i) (by omega)
      have H := h3.1
      have R := h3.2.1
      refine ⟨(_, M'), ?_, rfl, Fr_tr h2 F, C', V'⟩
      show BH_sendAll_4 (LH_sendAll_4 f) h (nI t) _ (nI i) a2 = _
      simp (disch := omega) only [BH_sendAll_4, gd1, bs1, ↓reduceIte, d_nz, d_nn, or_true, true_or, or_false, false_or, decide_true, Sum.elim_inl, Sum.elim_inr, ↓l_m1, l_0, l_1, l_2, l_3, l_4, l_5, l_6, l_7, l_8, l_9, l_10, l_16, l_17, l_18, l_20, l_23, l_24, l_30, l_31, l_32, l_39, l_40, l_41, l_48, l_57, l_58, l_59, l_60, l_63, l_90, l_97, l_98, l_99, l_100, l_102, l_103, l_104, l_107, l_109, l_112, l_115, l_116, l_117, l_120, l_122, l_126, l_166, l_180, l_240, l_255, l_640, l_999, l_2656, l_3064, l_3704, l_3708, l_3712, l_3713, l_3893, l_155720, l_1000000, n_ltT, n_ltF, n_leT, n_leF, n_eqT, n_eqF, n_eqm, n_eqm', n_mltn, n_mlen, n_nltm, n_nlem, n_mltm, n_mlem, n_add, n_mul, n_sub, n_subm, n_cl, n_ofNat, n_div, n_mod, obM_si, rdI_si, wrI_si, lnI_si, grM_si', tgM_si', obM_sa, rdI_sa, wrI_sa, lnI_sa, grM_sa', tgM_sa', hs_ob H, hs_g0 H, hs_g1 H, hs_g2 H, hs_g3 H, hs_g4 H, hs_g5 H, hs_g6 H, hs_g7 H, hs_g8 H, hs_t1 H, hs_r1 H, hs_w1 H, hs_l1 H, hs_t2 H, hs_r2 H, hs_w2 H, hs_l2 H, hs_t3 H, hs_r3 H, hs_w3 H, hs_l3 H, hs_t14 H, hs_r14 H, hs_w14 H, hs_l14 H, hs_t15 H, hs_r15 H, hs_w15 H, hs_l15 H, hs_ob4 H, hs_g4_0 H, hs_t5 H, hs_r5 H, hs_w5 H, hs_l5 H, hs_g4_1 H, hs_t6 H, hs_r6 H, hs_w6 H, hs_l6 H, hs_g4_2 H, hs_t7 H, hs_r7 H, hs_w7 H, hs_l7 H, hs_g4_3 H, hs_t8 H, hs_r8 H, hs_w8 H, hs_l8 H, hs_ob9 H, hs_g9_0 H, hs_t10 H, hs_r10 H, hs_w10 H, hs_l10 H, hs_g9_1 H, hs_t11 H, hs_r11 H, hs_w11 H, hs_l11 H, hs_g9_2 H, hs_t12 H, hs_r12 H, hs_w12 H, hs_l12 H, hs_g9_3 H, hs_t13 H, hs_r13 H, hs_w13 H, hs_l13 H, hs_ob16 H, hs_g16 H, hs_t17 H, hs_r17 H, hs_w17 H, hs_l17 H, hs_ob5 H, hs_g50 H, hs_g51 H, hs_tu6 H, hs_ru6 H, hs_wu6 H, hs_lu6 H, hs_tu7 H, hs_ru7 H, hs_wu7 H, hs_lu7 H, rc_T R, rc_P R, rc_U R, rc_B R, rc_H R, rc_K R, e]
      rfl)
    (fun f a hP => by
      obtain ⟨a1, a2⟩ := a
      obtain ⟨h1, h2, h3, h4⟩ := hP
      have h3 : CC a2 h ρ β (fr (aHome ρ t) (rP ρ) S) := h3
      have H := h3.1
      have R := h3.2.1
      refine ⟨(a1, a2), ?_, h1, h2, h3, h4⟩
      show BH_sendAll_4 (LH_sendAll_4 f) h (nI t) a1 (nI (rP ρ)) a2 = _
      simp (disch := omega) only [BH_sendAll_4, gd1, bs1, ↓reduceIte, d_nz, d_nn, or_true, true_or, or_false, false_or, decide_true, Sum.elim_inl, Sum.elim_inr, ↓l_m1, l_0, l_1, l_2, l_3, l_4, l_5, l_6, l_7, l_8, l_9, l_10, l_16, l_17, l_18, l_20, l_23, l_24, l_30, l_31, l_32, l_39, l_40, l_41, l_48, l_57, l_58, l_59, l_60, l_63, l_90, l_97, l_98, l_99, l_100, l_102, l_103, l_104, l_107, l_109, l_112, l_115, l_116, l_117, l_120, l_122, l_126, l_166, l_180, l_240, l_255, l_640, l_999, l_2656, l_3064, l_3704, l_3708, l_3712, l_3713, l_3893, l_155720, l_1000000, n_ltT, n_ltF, n_leT, n_leF, n_eqT, n_eqF, n_eqm, n_eqm', n_mltn, n_mlen, n_nltm, n_nlem, n_mltm, n_mlem, n_add, n_mul, n_sub, n_subm, n_cl, n_ofNat, n_div, n_mod, obM_si, rdI_si, wrI_si, lnI_si, grM_si', tgM_si', obM_sa, rdI_sa, wrI_sa, lnI_sa, grM_sa', tgM_sa', hs_ob H, hs_g0 H, hs_g1 H, hs_g2 H, hs_g3 H, hs_g4 H, hs_g5 H, hs_g6 H, hs_g7 H, hs_g8 H, hs_t1 H, hs_r1 H, hs_w1 H, hs_l1 H, hs_t2 H, hs_r2 H, hs_w2 H, hs_l2 H, hs_t3 H, hs_r3 H, hs_w3 H, hs_l3 H, hs_t14 H, hs_r14 H, hs_w14 H, hs_l14 H, hs_t15 H, hs_r15 H, hs_w15 H, hs_l15 H, hs_ob4 H, hs_g4_0 H, hs_t5 H, hs_r5 H, hs_w5 H, hs_l5 H, hs_g4_1 H, hs_t6 H, hs_r6 H, hs_w6 H, hs_l6 H, hs_g4_2 H, hs_t7 H, hs_r7 H, hs_w7 H, hs_l7 H, hs_g4_3 H, hs_t8 H, hs_r8 H, hs_w8 H, hs_l8 H, hs_ob9 H, hs_g9_0 H, hs_t10 H, hs_r10 H, hs_w10 H, hs_l10 H, hs_g9_1 H, hs_t11 H, hs_r11 H, hs_w11 H, hs_l11 H, hs_g9_2 H, hs_t12 H, hs_r12 H, hs_w12 H, hs_l12 H, hs_g9_3 H, hs_t13 H, hs_r13 H, hs_w13 H, hs_l13 H, hs_ob16 H, hs_g16 H, hs_t17 H, hs_r17 H, hs_w17 H, hs_l17 H, hs_ob5 H, hs_g50 H, hs_g51 H, hs_tu6 H, hs_ru6 H, hs_wu6 H, hs_lu6 H, hs_tu7 H, hs_ru7 H, hs_wu7 H, hs_lu7 H, rc_T R, rc_P R, rc_U R, rc_B R, rc_H R, rc_K R]) (rP ρ) 1000000 0 (nI 0, M) (by omega) (by omega) ⟨rfl, Fr_refl _ _ _, C, V⟩
  obtain ⟨⟨r1, r2⟩, e, h1, h2⟩ := key
  obtain rfl : r1 = _ := h1
  refine ⟨r2, ?_, h2⟩
  have e : LH_sendAll_4 1000000 h (nI t) (nI 0) (nI 0) M = some (nI (aCnt ρ t S), r2) := e
  simp only [fH_sendAll, ↓l_m1, l_0, l_1, l_2, l_3, l_4, l_5, l_6, l_7, l_8, l_9, l_10, l_16, l_17, l_18, l_20, l_23, l_24, l_30, l_31, l_32, l_39, l_40, l_41, l_48, l_57, l_58, l_59, l_60, l_63, l_90, l_97, l_98, l_99, l_100, l_102, l_103, l_104, l_107, l_109, l_112, l_115, l_116, l_117, l_120, l_122, l_126, l_166, l_180, l_240, l_255, l_640, l_999, l_2656, l_3064, l_3704, l_3708, l_3712, l_3713, l_3893, l_155720, l_1000000, e, bs1]
theorem cHomes (C : CC M h ρ β S) (V : Inv ρ β S) (ht : t < rT ρ) : ∃ M', LH_beat_2 1000000 h (nI t) (nI 0) M = some M' ∧ Fr M M' (h + 1) (h + 13) ∧ CC M' h ρ β (aHomes ρ t S) ∧ Inv ρ β (aHomes ρ t S) := by
  have hR := ru_b C.2.2.1
  refine cLoop (L := fun f i M => LH_beat_2 f h (nI t) (nI i) M) (g := aHome ρ t) (n := rP ρ) C V (by omega) ?_ ?_
  · intro f i M S hi C V
    obtain ⟨M', e, F, C', V'⟩ := cHome C V ht (p := i) (by omega)
    have H := C.1
    have R := C.2.1
    refine ⟨M', ?_, F, C', V'⟩
    show BH_beat_2 (LH_beat_2 f) h (nI t) (nI i) M = _
    simp (disch := omega) only [BH_beat_2, gd1, bs1, ↓reduceIte, d_nz, d_nn, or_true, true_or, or_false, false_or, decide_true, Sum.elim_inl, Sum.elim_inr, ↓l_m1, l_0, l_1, l_2, l_3, l_4, l_5, l_6, l_7, l_8, l_9, l_10, l_16, l_17, l_18, l_20, l_23, l_24, l_30, l_31, l_32, l_39, l_40, l_41, l_48, l_57, l_58, l_59, l_60, l_63, l_90, l_97, l_98, l_99, l_100, l_102, l_103, l_104, l_107, l_109, l_112, l_115, l_116, l_117, l_120, l_122, l_126, l_166, l_180, l_240, l_255, l_640, l_999, l_2656, l_3064, l_3704, l_3708, l_3712, l_3713, l_3893, l_155720, l_1000000, n_ltT, n_ltF, n_leT, n_leF, n_eqT, n_eqF, n_eqm, n_eqm', n_mltn, n_mlen, n_nltm, n_nlem, n_mltm, n_mlem, n_add, n_mul, n_sub, n_subm, n_cl, n_ofNat, n_div, n_mod, obM_si, rdI_si, wrI_si, lnI_si, grM_si', tgM_si', obM_sa, rdI_sa, wrI_sa, lnI_sa, grM_sa', tgM_sa', hs_ob H, hs_g0 H, hs_g1 H, hs_g2 H, hs_g3 H, hs_g4 H, hs_g5 H, hs_g6 H, hs_g7 H, hs_g8 H, hs_t1 H, hs_r1 H, hs_w1 H, hs_l1 H, hs_t2 H, hs_r2 H, hs_w2 H, hs_l2 H, hs_t3 H, hs_r3 H, hs_w3 H, hs_l3 H, hs_t14 H, hs_r14 H, hs_w14 H, hs_l14 H, hs_t15 H, hs_r15 H, hs_w15 H, hs_l15 H, hs_ob4 H, hs_g4_0 H, hs_t5 H, hs_r5 H, hs_w5 H, hs_l5 H, hs_g4_1 H, hs_t6 H, hs_r6 H, hs_w6 H, hs_l6 H, hs_g4_2 H, hs_t7 H, hs_r7 H, hs_w7 H, hs_l7 H, hs_g4_3 H, hs_t8 H, hs_r8 H, hs_w8 H, hs_l8 H, hs_ob9 H, hs_g9_0 H, hs_t10 H, hs_r10 H, hs_w10 H, hs_l10 H, hs_g9_1 H, hs_t11 H, hs_r11 H, hs_w11 H, hs_l11 H, hs_g9_2 H, hs_t12 H, hs_r12 H, hs_w12 H, hs_l12 H, hs_g9_3 H, hs_t13 H, hs_r13 H, hs_w13 H, hs_l13 H, hs_ob16 H, hs_g16 H, hs_t17 H, hs_r17 H, hs_w17 H, hs_l17 H, hs_ob5 H, hs_g50 H, hs_g51 H, hs_tu6 H, hs_ru6 H, hs_wu6 H, hs_lu6 H, hs_tu7 H, hs_ru7 H, hs_wu7 H, hs_lu7 H, rc_T R, rc_P R, rc_U R, rc_B R, rc_H R, rc_K R, e]
  · intro f M S C
    have H := C.1
    have R := C.2.1
    show BH_beat_2 (LH_beat_2 f) h (nI t) (nI (rP ρ)) M = _
    simp (disch := omega) only [BH_beat_2, gd1, bs1, ↓reduceIte, d_nz, d_nn, or_true, true_or, or_false, false_or, decide_true, Sum.elim_inl, Sum.elim_inr, ↓l_m1, l_0, l_1, l_2, l_3, l_4, l_5, l_6, l_7, l_8, l_9, l_10, l_16, l_17, l_18, l_20, l_23, l_24, l_30, l_31, l_32, l_39, l_40, l_41, l_48, l_57, l_58, l_59, l_60, l_63, l_90, l_97, l_98, l_99, l_100, l_102, l_103, l_104, l_107, l_109, l_112, l_115, l_116, l_117, l_120, l_122, l_126, l_166, l_180, l_240, l_255, l_640, l_999, l_2656, l_3064, l_3704, l_3708, l_3712, l_3713, l_3893, l_155720, l_1000000, n_ltT, n_ltF, n_leT, n_leF, n_eqT, n_eqF, n_eqm, n_eqm', n_mltn, n_mlen, n_nltm, n_nlem, n_mltm, n_mlem, n_add, n_mul, n_sub, n_subm, n_cl, n_ofNat, n_div, n_mod, obM_si, rdI_si, wrI_si, lnI_si, grM_si', tgM_si', obM_sa, rdI_sa, wrI_sa, lnI_sa, grM_sa', tgM_sa', hs_ob H, hs_g0 H, hs_g1 H, hs_g2 H, hs_g3 H, hs_g4 H, hs_g5 H, hs_g6 H, hs_g7 H, hs_g8 H, hs_t1 H, hs_r1 H, hs_w1 H, hs_l1 H, hs_t2 H, hs_r2 H, hs_w2 H, hs_l2 H, hs_t3 H, hs_r3 H, hs_w3 H, hs_l3 H, hs_t14 H, hs_r14 H, hs_w14 H, hs_l14 H, hs_t15 H, hs_r15 H, hs_w15 H, hs_l15 H, hs_ob4 H, hs_g4_0 H, hs_t5 H, hs_r5 H, hs_w5 H, hs_l5 H, hs_g4_1 H, hs_t6 H, hs_r6 H, hs_w6 H, hs_l6 H, hs_g4_2 H, hs_t7 H, hs_r7 H, hs_w7 H, hs_l7 H, hs_g4_3 H, hs_t8 H, hs_r8 H, hs_w8 H, hs_l8 H, hs_ob9 H, hs_g9_0 H, hs_t10 H, hs_r10 H, hs_w10 H, hs_l10 H, hs_g9_1 H, hs_t11 H, hs_r11 H, hs_w11 H, hs_l11 H, hs_g9_2 H, hs_t12 H, hs_r12 H, hs_w12 H, hs_l12 H, hs_g9_3 H, hs_t13 H, hs_r13 H, hs_w13 H, hs_l13 H, hs_ob16 H, hs_g16 H, hs_t17 H, hs_r17 H, hs_w17 H, hs_l17 H, hs_ob5 H, hs_g50 H, hs_g51 H, hs_tu6 H, hs_ru6 H, hs_wu6 H, hs_lu6 H, hs_tu7 H, hs_ru7 H, hs_wu7 H, hs_lu7 H, rc_T R, rc_P R, rc_U R, rc_B R, rc_H R, rc_K R]
/-- owner and home of a page, as the class has them -/
theorem own_is (C : CC M h ρ β S) (V : Inv ρ β S) (hp : p < 16) (ht : t < rT ρ) : (giM M (h + 2) p = nI t) = ((kd S p = 1 ∨ kd S p = 2) ∧ ow S p = t) := by
  have hR := ru_b C.2.2.1
  rw [cv_o C hp]
  by_cases hk : kd S p = 1 ∨ kd S p = 2
  · rw [oI_n hk]
    have ho := (V.1 p hp).2.2.1 hk
    refine propext ⟨fun q => ⟨hk, n_inj (by omega) (by omega) q⟩, fun q => by rw [q.2]⟩
  · rw [oI_m hk]
    refine propext ⟨fun q => ?_, fun q => absurd q.1 hk⟩
    exact absurd q (by rw [n_eqm' (by omega)]; exact id)
theorem home_1 (C : CC M h ρ β S) (V : Inv ρ β S) (hp : p < 16) (hk : kd S p = 1) : giM M (h + 8) p = nI (6 * ow S p + cl S p) ∧ 6 * ow S p + cl S p < 24 := by
  have hR := ru_b C.2.2.1
  have hq := q_lt (by omega) (by omega) V.1 hp (Or.inl hk)
  exact ⟨((cv_Q C (6 * ow S p + cl S p) hq.2.2).2.2.2 p (((V.2.2.1 _ hq.2.2).2 p).mpr ⟨hp, hk, rfl⟩)).2, hq.2.2⟩
theorem qlen (V : Inv ρ β S) (hq : q < 24) : (qu S q).length ≤ 16 := nd_len (V.2.2.1 q hq).1 (fun x hx => (((V.2.2.1 q hq).2 x).mp hx).1)
theorem inv_aQ1 (hp : p < 16) (V : Inv ρ β S) : Inv ρ β (aQ1 t p S) := by
  unfold aQ1
  by_cases h0 : kd S p = 2 ∧ ow S p = t ∧ 0 < lst S p
  · rw [if_pos h0]; exact inv_enq hp h0.1 V
  · rw [if_neg h0]; exact V
theorem inv_aQ2 (hp : p < 16) (V : Inv ρ β S) : Inv ρ β (aQ2 ρ t p S) := by
  unfold aQ2
  by_cases h0 : kd S p = 1 ∧ ow S p = t ∧ usd ρ S p = 0 ∧ 1 < (qu S (6 * ow S p + cl S p)).length
  · rw [if_pos h0]; exact inv_empty hp h0.2.2.1 V
  · rw [if_neg h0]; exact V
theorem inv_aT1 (hp : p < 16) (V : Inv ρ β S) : Inv ρ β (aT1 ρ t p S) := by
  unfold aT1
  by_cases h0 : (kd S p = 1 ∨ kd S p = 2) ∧ ow S p = t
  · rw [if_pos h0]
    by_cases h1 : usd ρ S p = 0
    · rw [if_pos h1]; exact inv_empty hp h1 V
    · rw [if_neg h1]; exact inv_aband hp (by omega) V
  · rw [if_neg h0]; exact V
theorem cQ1 (C : CC M h ρ β S) (V : Inv ρ β S) (ht : t < rT ρ) : ∃ M', fH_queueFullAgain h (nI t) M = some M' ∧ Fr M M' (h + 1) (h + 13) ∧ CC M' h ρ β (fr (aQ1 t) (rP ρ) S) ∧ Inv ρ β (fr (aQ1 t) (rP ρ) S) := by
  have hR := ru_b C.2.2.1
  have key : ∃ M', LH_queueFullAgain_2 1000000 h (nI t) (nI 0) M = some M' ∧ Fr M M' (h + 1) (h + 13) ∧ CC M' h ρ β (fr (aQ1 t) (rP ρ) S) ∧ Inv ρ β (fr (aQ1 t) (rP ρ) S) := by
    refine cLoop (L := fun f i M => LH_queueFullAgain_2 f h (nI t) (nI i) M) (g := aQ1 t) (n := rP ρ) C V (by omega) ?_ ?_
    · intro f i M S hi C V
      have hi16 : i < 16 := by omega
      have H := C.1
      have hb := hs_b H
      have R := C.2.1
      have VA := inv_aQ1 (t := t) hi16 V
      have ho := own_is C V hi16 ht
      have l1 := lengthOf_ok (w := 1) C hi16 (by omega)
      have l2 := lengthOf_ok (w := 2) C hi16 (by omega)
      have k1 := bl_len C.2.2.1 V (l := 3 * i + 1) (by omega)
      have k2 := bl_len C.2.2.1 V (l := 3 * i + 2) (by omega)
      revert VA
      unfold aQ1
      show (_ → ∃ M', BH_queueFullAgain_2 (LH_queueFullAgain_2 f) h (nI t) (nI i) M = _ ∧ _)
      by_cases h1 : (kd S i = 1 ∨ kd S i = 2) ∧ ow S i = t
      · have ho : giM M (h + 2) i = nI t := ho.mpr h1
        by_cases h2 : kd S i = 2
        · have hh := cv_h C hi16 (by omega)
          have hl : lst S i = (bl S (3 * i + 1)).length + (bl S (3 * i + 2)).length := by
            unfold lst
            rw [(V.1 i hi16).2.2.2 h2]
            simp
          by_cases h3 : 0 < lst S i
          · rw [if_pos ⟨h2, h1.2, h3⟩]
            intro VA
            obtain ⟨M', e, F, C'⟩ := cEnq C V hi16 h2
            rw [h1.2] at e
            have hk : giM M (h + 1) i = nI (cl S i) := (cv_k C hi16).trans (kI_n (by omega))
            refine ⟨M', ?_, Fr_w F (by omega) (by omega), C', VA⟩
            rw [hl] at h3
            simp (disch := omega) only [BH_queueFullAgain_2, BH_queueFullAgain_43, BH_queueFullAgain_83, fH_queueOf, gd1, bs1, ↓reduceIte, d_nz, d_nn, or_true, true_or, or_false, false_or, decide_true, Sum.elim_inl, Sum.elim_inr, ↓l_m1, l_0, l_1, l_2, l_3, l_4, l_5, l_6, l_7, l_8, l_9, l_10, l_16, l_17, l_18, l_20, l_23, l_24, l_30, l_31, l_32, l_39, l_40, l_41, l_48, l_57, l_58, l_59, l_60, l_63, l_90, l_97, l_98, l_99, l_100, l_102, l_103, l_104, l_107, l_109, l_112, l_115, l_116, l_117, l_120, l_122, l_126, l_166, l_180, l_240, l_255, l_640, l_999, l_2656, l_3064, l_3704, l_3708, l_3712, l_3713, l_3893, l_155720, l_1000000, n_ltT, n_ltF, n_leT, n_leF, n_eqT, n_eqF, n_eqm, n_eqm', n_mltn, n_mlen, n_nltm, n_nlem, n_mltm, n_mlem, n_add, n_mul, n_sub, n_subm, n_cl, n_ofNat, n_div, n_mod, obM_si, rdI_si, wrI_si, lnI_si, grM_si', tgM_si', obM_sa, rdI_sa, wrI_sa, lnI_sa, grM_sa', tgM_sa', hs_ob H, hs_g0 H, hs_g1 H, hs_g2 H, hs_g3 H, hs_g4 H, hs_g5 H, hs_g6 H, hs_g7 H, hs_g8 H, hs_t1 H, hs_r1 H, hs_w1 H, hs_l1 H, hs_t2 H, hs_r2 H, hs_w2 H, hs_l2 H, hs_t3 H, hs_r3 H, hs_w3 H, hs_l3 H, hs_t14 H, hs_r14 H, hs_w14 H, hs_l14 H, hs_t15 H, hs_r15 H, hs_w15 H, hs_l15 H, hs_ob4 H, hs_g4_0 H, hs_t5 H, hs_r5 H, hs_w5 H, hs_l5 H, hs_g4_1 H, hs_t6 H, hs_r6 H, hs_w6 H, hs_l6 H, hs_g4_2 H, hs_t7 H, hs_r7 H, hs_w7 H, hs_l7 H, hs_g4_3 H, hs_t8 H, hs_r8 H, hs_w8 H, hs_l8 H, hs_ob9 H, hs_g9_0 H, hs_t10 H, hs_r10 H, hs_w10 H, hs_l10 H, hs_g9_1 H, hs_t11 H, hs_r11 H, hs_w11 H, hs_l11 H, hs_g9_2 H, hs_t12 H, hs_r12 H, hs_w12 H, hs_l12 H, hs_g9_3 H, hs_t13 H, hs_r13 H, hs_w13 H, hs_l13 H, hs_ob16 H, hs_g16 H, hs_t17 H, hs_r17 H, hs_w17 H, hs_l17 H, hs_ob5 H, hs_g50 H, hs_g51 H, hs_tu6 H, hs_ru6 H, hs_wu6 H, hs_lu6 H, hs_tu7 H, hs_ru7 H, hs_wu7 H, hs_lu7 H, rc_T R, rc_P R, rc_U R, rc_B R, rc_H R, rc_K R, mul3, mul6, mul16, mul40, mul100, Nat.add_zero, ho, hh, l1, l2, hk, e]
          · rw [if_neg (fun q => h3 q.2.2)]
            intro VA
            refine ⟨M, ?_, Fr_refl _ _ _, C, V⟩
            rw [hl] at h3
            simp (disch := omega) only [BH_queueFullAgain_2, BH_queueFullAgain_43, BH_queueFullAgain_83, gd1, bs1, ↓reduceIte, d_nz, d_nn, or_true, true_or, or_false, false_or, decide_true, Sum.elim_inl, Sum.elim_inr, ↓l_m1, l_0, l_1, l_2, l_3, l_4, l_5, l_6, l_7, l_8, l_9, l_10, l_16, l_17, l_18, l_20, l_23, l_24, l_30, l_31, l_32, l_39, l_40, l_41, l_48, l_57, l_58, l_59, l_60, l_63, l_90, l_97, l_98, l_99, l_100, l_102, l_103, l_104, l_107, l_109, l_112, l_115, l_116, l_117, l_120, l_122, l_126, l_166, l_180, l_240, l_255, l_640, l_999, l_2656, l_3064, l_3704, l_3708, l_3712, l_3713, l_3893, l_155720, l_1000000, n_ltT, n_ltF, n_leT, n_leF, n_eqT, n_eqF, n_eqm, n_eqm', n_mltn, n_mlen, n_nltm, n_nlem, n_mltm, n_mlem, n_add, n_mul, n_sub, n_subm, n_cl, n_ofNat, n_div, n_mod, obM_si, rdI_si, wrI_si, lnI_si, grM_si', tgM_si', obM_sa, rdI_sa, wrI_sa, lnI_sa, grM_sa', tgM_sa', hs_ob H, hs_g0 H, hs_g1 H, hs_g2 H, hs_g3 H, hs_g4 H, hs_g5 H, hs_g6 H, hs_g7 H, hs_g8 H, hs_t1 H, hs_r1 H, hs_w1 H, hs_l1 H, hs_t2 H, hs_r2 H, hs_w2 H, hs_l2 H, hs_t3 H, hs_r3 H, hs_w3 H, hs_l3 H, hs_t14 H, hs_r14 H, hs_w14 H, hs_l14 H, hs_t15 H, hs_r15 H, hs_w15 H, hs_l15 H, hs_ob4 H, hs_g4_0 H, hs_t5 H, hs_r5 H, hs_w5 H, hs_l5 H, hs_g4_1 H, hs_t6 H, hs_r6 H, hs_w6 H, hs_l6 H, hs_g4_2 H, hs_t7 H, hs_r7 H, hs_w7 H, hs_l7 H, hs_g4_3 H, hs_t8 H, hs_r8 H, hs_w8 H, hs_l8 H, hs_ob9 H, hs_g9_0 H, hs_t10 H, hs_r10 H, hs_w10 H, hs_l10 H, hs_g9_1 H, hs_t11 H, hs_r11 H, hs_w11 H, hs_l11 H, hs_g9_2 H, hs_t12 H, hs_r12 H, hs_w12 H, hs_l12 H, hs_g9_3 H, hs_t13 H, hs_r13 H, hs_w13 H, hs_l13 H, hs_ob16 H, hs_g16 H, hs_t17 H, hs_r17 H, hs_w17 H, hs_l17 H, hs_ob5 H, hs_g50 H, hs_g51 H, hs_tu6 H, hs_ru6 H, hs_wu6 H, hs_lu6 H, hs_tu7 H, hs_ru7 H, hs_wu7 H, hs_lu7 H, rc_T R, rc_P R, rc_U R, rc_B R, rc_H R, rc_K R, mul3, mul6, mul16, mul40, mul100, Nat.add_zero, ho, hh, l1, l2]
        · rw [if_neg (fun q => h2 q.1)]
          intro VA
          have hh := home_1 C V hi16 (by omega)
          have hh1 := hh.1
          have hh2 := hh.2
          refine ⟨M, ?_, Fr_refl _ _ _, C, V⟩
          simp (disch := omega) only [BH_queueFullAgain_2, BH_queueFullAgain_42, BH_queueFullAgain_43, BH_queueFullAgain_83, gd1, bs1, ↓reduceIte, d_nz, d_nn, or_true, true_or, or_false, false_or, decide_true, Sum.elim_inl, Sum.elim_inr, ↓l_m1, l_0, l_1, l_2, l_3, l_4, l_5, l_6, l_7, l_8, l_9, l_10, l_16, l_17, l_18, l_20, l_23, l_24, l_30, l_31, l_32, l_39, l_40, l_41, l_48, l_57, l_58, l_59, l_60, l_63, l_90, l_97, l_98, l_99, l_100, l_102, l_103, l_104, l_107, l_109, l_112, l_115, l_116, l_117, l_120, l_122, l_126, l_166, l_180, l_240, l_255, l_640, l_999, l_2656, l_3064, l_3704, l_3708, l_3712, l_3713, l_3893, l_155720, l_1000000, n_ltT, n_ltF, n_leT, n_leF, n_eqT, n_eqF, n_eqm, n_eqm', n_mltn, n_mlen, n_nltm, n_nlem, n_mltm, n_mlem, n_add, n_mul, n_sub, n_subm, n_cl, n_ofNat, n_div, n_mod, obM_si, rdI_si, wrI_si, lnI_si, grM_si', tgM_si', obM_sa, rdI_sa, wrI_sa, lnI_sa, grM_sa', tgM_sa', hs_ob H, hs_g0 H, hs_g1 H, hs_g2 H, hs_g3 H, hs_g4 H, hs_g5 H, hs_g6 H, hs_g7 H, hs_g8 H, hs_t1 H, hs_r1 H, hs_w1 H, hs_l1 H, hs_t2 H, hs_r2 H, hs_w2 H, hs_l2 H, hs_t3 H, hs_r3 H, hs_w3 H, hs_l3 H, hs_t14 H, hs_r14 H, hs_w14 H, hs_l14 H, hs_t15 H, hs_r15 H, hs_w15 H, hs_l15 H, hs_ob4 H, hs_g4_0 H, hs_t5 H, hs_r5 H, hs_w5 H, hs_l5 H, hs_g4_1 H, hs_t6 H, hs_r6 H, hs_w6 H, hs_l6 H, hs_g4_2 H, hs_t7 H, hs_r7 H, hs_w7 H, hs_l7 H, hs_g4_3 H, hs_t8 H, hs_r8 H, hs_w8 H, hs_l8 H, hs_ob9 H, hs_g9_0 H, hs_t10 H, hs_r10 H, hs_w10 H, hs_l10 H, hs_g9_1 H, hs_t11 H, hs_r11 H, hs_w11 H, hs_l11 H, hs_g9_2 H, hs_t12 H, hs_r12 H, hs_w12 H, hs_l12 H, hs_g9_3 H, hs_t13 H, hs_r13 H, hs_w13 H, hs_l13 H, hs_ob16 H, hs_g16 H, hs_t17 H, hs_r17 H, hs_w17 H, hs_l17 H, hs_ob5 H, hs_g50 H, hs_g51 H, hs_tu6 H, hs_ru6 H, hs_wu6 H, hs_lu6 H, hs_tu7 H, hs_ru7 H, hs_wu7 H, hs_lu7 H, rc_T R, rc_P R, rc_U R, rc_B R, rc_H R, rc_K R, mul3, mul6, mul16, mul40, mul100, Nat.add_zero, ho, hh1]
      · rw [if_neg (fun q => h1 ⟨Or.inr q.1, q.2.1⟩)]
        intro VA
        have ho : (giM M (h + 2) i = nI t) = False := by rw [ho]; exact eq_false h1
        refine ⟨M, ?_, Fr_refl _ _ _, C, V⟩
        simp (disch := omega) only [BH_queueFullAgain_2, BH_queueFullAgain_42, BH_queueFullAgain_43, BH_queueFullAgain_83, gd1, bs1, ↓reduceIte, d_nz, d_nn, or_true, true_or, or_false, false_or, decide_true, Sum.elim_inl, Sum.elim_inr, ↓l_m1, l_0, l_1, l_2, l_3, l_4, l_5, l_6, l_7, l_8, l_9, l_10, l_16, l_17, l_18, l_20, l_23, l_24, l_30, l_31, l_32, l_39, l_40, l_41, l_48, l_57, l_58, l_59, l_60, l_63, l_90, l_97, l_98, l_99, l_100, l_102, l_103, l_104, l_107, l_109, l_112, l_115, l_116, l_117, l_120, l_122, l_126, l_166, l_180, l_240, l_255, l_640, l_999, l_2656, l_3064, l_3704, l_3708, l_3712, l_3713, l_3893, l_155720, l_1000000, n_ltT, n_ltF, n_leT, n_leF, n_eqT, n_eqF, n_eqm, n_eqm', n_mltn, n_mlen, n_nltm, n_nlem, n_mltm, n_mlem, n_add, n_mul, n_sub, n_subm, n_cl, n_ofNat, n_div, n_mod, obM_si, rdI_si, wrI_si, lnI_si, grM_si', tgM_si', obM_sa, rdI_sa, wrI_sa, lnI_sa, grM_sa', tgM_sa', hs_ob H, hs_g0 H, hs_g1 H, hs_g2 H, hs_g3 H, hs_g4 H, hs_g5 H, hs_g6 H, hs_g7 H, hs_g8 H, hs_t1 H, hs_r1 H, hs_w1 H, hs_l1 H, hs_t2 H, hs_r2 H, hs_w2 H, hs_l2 H, hs_t3 H, hs_r3 H, hs_w3 H, hs_l3 H, hs_t14 H, hs_r14 H, hs_w14 H, hs_l14 H, hs_t15 H, hs_r15 H, hs_w15 H, hs_l15 H, hs_ob4 H, hs_g4_0 H, hs_t5 H, hs_r5 H, hs_w5 H, hs_l5 H, hs_g4_1 H, hs_t6 H, hs_r6 H, hs_w6 H, hs_l6 H, hs_g4_2 H, hs_t7 H, hs_r7 H, hs_w7 H, hs_l7 H, hs_g4_3 H, hs_t8 H, hs_r8 H, hs_w8 H, hs_l8 H, hs_ob9 H, hs_g9_0 H, hs_t10 H, hs_r10 H, hs_w10 H, hs_l10 H, hs_g9_1 H, hs_t11 H, hs_r11 H, hs_w11 H, hs_l11 H, hs_g9_2 H, hs_t12 H, hs_r12 H, hs_w12 H, hs_l12 H, hs_g9_3 H, hs_t13 H, hs_r13 H, hs_w13 H, hs_l13 H, hs_ob16 H, hs_g16 H, hs_t17 H, hs_r17 H, hs_w17 H, hs_l17 H, hs_ob5 H, hs_g50 H, hs_g51 H, hs_tu6 H, hs_ru6 H, hs_wu6 H, hs_lu6 H, hs_tu7 H, hs_ru7 H, hs_wu7 H, hs_lu7 H, rc_T R, rc_P R, rc_U R, rc_B R, rc_H R, rc_K R, mul3, mul6, mul16, mul40, mul100, Nat.add_zero, ho]
    · intro f M S C
      have H := C.1
      have R := C.2.1
      show BH_queueFullAgain_2 (LH_queueFullAgain_2 f) h (nI t) (nI (rP ρ)) M = _
      simp (disch := omega) only [BH_queueFullAgain_2, gd1, bs1, ↓reduceIte, d_nz, d_nn, or_true, true_or, or_false, false_or, decide_true, Sum.elim_inl, Sum.elim_inr, ↓l_m1, l_0, l_1, l_2, l_3, l_4, l_5, l_6, l_7, l_8, l_9, l_10, l_16, l_17, l_18, l_20, l_23, l_24, l_30, l_31, l_32, l_39, l_40, l_41, l_48, l_57, l_58, l_59, l_60, l_63, l_90, l_97, l_98, l_99, l_100, l_102, l_103, l_104, l_107, l_109, l_112, l_115, l_116, l_117, l_120, l_122, l_126, l_166, l_180, l_240, l_255, l_640, l_999, l_2656, l_3064, l_3704, l_3708, l_3712, l_3713, l_3893, l_155720, l_1000000, n_ltT, n_ltF, n_leT, n_leF, n_eqT, n_eqF, n_eqm, n_eqm', n_mltn, n_mlen, n_nltm, n_nlem, n_mltm, n_mlem, n_add, n_mul, n_sub, n_subm, n_cl, n_ofNat, n_div, n_mod, obM_si, rdI_si, wrI_si, lnI_si, grM_si', tgM_si', obM_sa, rdI_sa, wrI_sa, lnI_sa, grM_sa', tgM_sa', hs_ob H, hs_g0 H, hs_g1 H, hs_g2 H, hs_g3 H, hs_g4 H, hs_g5 H, hs_g6 H, hs_g7 H, hs_g8 H, hs_t1 H, hs_r1 H, hs_w1 H, hs_l1 H, hs_t2 H, hs_r2 H, hs_w2 H, hs_l2 H, hs_t3 H, hs_r3 H, hs_w3 H, hs_l3 H, hs_t14 H, hs_r14 H, hs_w14 H, hs_l14 H, hs_t15 H, hs_r15 H, hs_w15 H, hs_l15 H, hs_ob4 H, hs_g4_0 H, hs_t5 H, hs_r5 H, hs_w5 H, hs_l5 H, hs_g4_1 H, hs_t6 H, hs_r6 H, hs_w6 H, hs_l6 H, hs_g4_2 H, hs_t7 H, hs_r7 H, hs_w7 H, hs_l7 H, hs_g4_3 H, hs_t8 H, hs_r8 H, hs_w8 H, hs_l8 H, hs_ob9 H, hs_g9_0 H, hs_t10 H, hs_r10 H, hs_w10 H, hs_l10 H, hs_g9_1 H, hs_t11 H, hs_r11 H, hs_w11 H, hs_l11 H, hs_g9_2 H, hs_t12 H, hs_r12 H, hs_w12 H, hs_l12 H, hs_g9_3 H, hs_t13 H, hs_r13 H, hs_w13 H, hs_l13 H, hs_ob16 H, hs_g16 H, hs_t17 H, hs_r17 H, hs_w17 H, hs_l17 H, hs_ob5 H, hs_g50 H, hs_g51 H, hs_tu6 H, hs_ru6 H, hs_wu6 H, hs_lu6 H, hs_tu7 H, hs_ru7 H, hs_wu7 H, hs_lu7 H, rc_T R, rc_P R, rc_U R, rc_B R, rc_H R, rc_K R]
  obtain ⟨M', e, r⟩ := key
  refine ⟨M', ?_, r⟩
  simp only [fH_queueFullAgain, ↓l_m1, l_0, l_1, l_2, l_3, l_4, l_5, l_6, l_7, l_8, l_9, l_10, l_16, l_17, l_18, l_20, l_23, l_24, l_30, l_31, l_32, l_39, l_40, l_41, l_48, l_57, l_58, l_59, l_60, l_63, l_90, l_97, l_98, l_99, l_100, l_102, l_103, l_104, l_107, l_109, l_112, l_115, l_116, l_117, l_120, l_122, l_126, l_166, l_180, l_240, l_255, l_640, l_999, l_2656, l_3064, l_3704, l_3708, l_3712, l_3713, l_3893, l_155720, l_1000000, e, bs1]
theorem cQ2 (C : CC M h ρ β S) (V : Inv ρ β S) (ht : t < rT ρ) : ∃ M', LH_beat_35 1000000 h (nI t) (nI 0) M = some M' ∧ Fr M M' (h + 1) (h + 13) ∧ CC M' h ρ β (fr (aQ2 ρ t) (rP ρ) S) ∧ Inv ρ β (fr (aQ2 ρ t) (rP ρ) S) := by
  have hR := ru_b C.2.2.1
  refine cLoop (L := fun f i M => LH_beat_35 f h (nI t) (nI i) M) (g := aQ2 ρ t) (n := rP ρ) C V (by omega) ?_ ?_
  · intro f i M S hi C V
    have hi16 : i < 16 := by omega
    have H := C.1
    have hb := hs_b H
    have R := C.2.1
    have VA := inv_aQ2 (t := t) hi16 V
    have ho := own_is C V hi16 ht
    have hu := usedOf_ok C V hi16
    have hu2 := usd_le C.2.2.1 V hi16
    revert VA
    unfold aQ2
    show (_ → ∃ M', BH_beat_35 (LH_beat_35 f) h (nI t) (nI i) M = _ ∧ _)
    by_cases h1 : (kd S i = 1 ∨ kd S i = 2) ∧ ow S i = t
    · have ho : giM M (h + 2) i = nI t := ho.mpr h1
      by_cases h2 : kd S i = 1
      · obtain ⟨hh1, hh2⟩ := home_1 C V hi16 h2
        have hql := qlen V hh2
        have hqm := cv_qm C hh2
        by_cases h3 : usd ρ S i = 0
        · rw [h3] at hu
          by_cases h4 : 1 < (qu S (6 * ow S i + cl S i)).length
          · rw [if_pos ⟨h2, h1.2, h3, h4⟩]
            intro VA
            obtain ⟨M', e, F, C'⟩ := cEmpty C V hi16 h1.1
            refine ⟨M', ?_, F, C', VA⟩
            simp (disch := omega) only [BH_beat_35, BH_beat_99, gd1, bs1, ↓reduceIte, d_nz, d_nn, or_true, true_or, or_false, false_or, decide_true, Sum.elim_inl, Sum.elim_inr, ↓l_m1, l_0, l_1, l_2, l_3, l_4, l_5, l_6, l_7, l_8, l_9, l_10, l_16, l_17, l_18, l_20, l_23, l_24, l_30, l_31, l_32, l_39, l_40, l_41, l_48, l_57, l_58, l_59, l_60, l_63, l_90, l_97, l_98, l_99, l_100, l_102, l_103, l_104, l_107, l_109, l_112, l_115, l_116, l_117, l_120, l_122, l_126, l_166, l_180, l_240, l_255, l_640, l_999, l_2656, l_3064, l_3704, l_3708, l_3712, l_3713, l_3893, l_155720, l_1000000, n_ltT, n_ltF, n_leT, n_leF, n_eqT, n_eqF, n_eqm, n_eqm', n_mltn, n_mlen, n_nltm, n_nlem, n_mltm, n_mlem, n_add, n_mul, n_sub, n_subm, n_cl, n_ofNat, n_div, n_mod, obM_si, rdI_si, wrI_si, lnI_si, grM_si', tgM_si', obM_sa, rdI_sa, wrI_sa, lnI_sa, grM_sa', tgM_sa', hs_ob H, hs_g0 H, hs_g1 H, hs_g2 H, hs_g3 H, hs_g4 H, hs_g5 H, hs_g6 H, hs_g7 H, hs_g8 H, hs_t1 H, hs_r1 H, hs_w1 H, hs_l1 H, hs_t2 H, hs_r2 H, hs_w2 H, hs_l2 H, hs_t3 H, hs_r3 H, hs_w3 H, hs_l3 H, hs_t14 H, hs_r14 H, hs_w14 H, hs_l14 H, hs_t15 H, hs_r15 H, hs_w15 H, hs_l15 H, hs_ob4 H, hs_g4_0 H, hs_t5 H, hs_r5 H, hs_w5 H, hs_l5 H, hs_g4_1 H, hs_t6 H, hs_r6 H, hs_w6 H, hs_l6 H, hs_g4_2 H, hs_t7 H, hs_r7 H, hs_w7 H, hs_l7 H, hs_g4_3 H, hs_t8 H, hs_r8 H, hs_w8 H, hs_l8 H, hs_ob9 H, hs_g9_0 H, hs_t10 H, hs_r10 H, hs_w10 H, hs_l10 H, hs_g9_1 H, hs_t11 H, hs_r11 H, hs_w11 H, hs_l11 H, hs_g9_2 H, hs_t12 H, hs_r12 H, hs_w12 H, hs_l12 H, hs_g9_3 H, hs_t13 H, hs_r13 H, hs_w13 H, hs_l13 H, hs_ob16 H, hs_g16 H, hs_t17 H, hs_r17 H, hs_w17 H, hs_l17 H, hs_ob5 H, hs_g50 H, hs_g51 H, hs_tu6 H, hs_ru6 H, hs_wu6 H, hs_lu6 H, hs_tu7 H, hs_ru7 H, hs_wu7 H, hs_lu7 H, rc_T R, rc_P R, rc_U R, rc_B R, rc_H R, rc_K R, mul3, mul6, mul16, mul40, mul100, Nat.add_zero, ho, hh1, hu, hqm, e]
          · rw [if_neg (fun q => h4 q.2.2.2)]
            intro VA
            refine ⟨M, ?_, Fr_refl _ _ _, C, V⟩
            simp (disch := omega) only [BH_beat_35, BH_beat_99, gd1, bs1, ↓reduceIte, d_nz, d_nn, or_true, true_or, or_false, false_or, decide_true, Sum.elim_inl, Sum.elim_inr, ↓l_m1, l_0, l_1, l_2, l_3, l_4, l_5, l_6, l_7, l_8, l_9, l_10, l_16, l_17, l_18, l_20, l_23, l_24, l_30, l_31, l_32, l_39, l_40, l_41, l_48, l_57, l_58, l_59, l_60, l_63, l_90, l_97, l_98, l_99, l_100, l_102, l_103, l_104, l_107, l_109, l_112, l_115, l_116, l_117, l_120, l_122, l_126, l_166, l_180, l_240, l_255, l_640, l_999, l_2656, l_3064, l_3704, l_3708, l_3712, l_3713, l_3893, l_155720, l_1000000, n_ltT, n_ltF, n_leT, n_leF, n_eqT, n_eqF, n_eqm, n_eqm', n_mltn, n_mlen, n_nltm, n_nlem, n_mltm, n_mlem, n_add, n_mul, n_sub, n_subm, n_cl, n_ofNat, n_div, n_mod, obM_si, rdI_si, wrI_si, lnI_si, grM_si', tgM_si', obM_sa, rdI_sa, wrI_sa, lnI_sa, grM_sa', tgM_sa', hs_ob H, hs_g0 H, hs_g1 H, hs_g2 H, hs_g3 H, hs_g4 H, hs_g5 H, hs_g6 H, hs_g7 H, hs_g8 H, hs_t1 H, hs_r1 H, hs_w1 H, hs_l1 H, hs_t2 H, hs_r2 H, hs_w2 H, hs_l2 H, hs_t3 H, hs_r3 H, hs_w3 H, hs_l3 H, hs_t14 H, hs_r14 H, hs_w14 H, hs_l14 H, hs_t15 H, hs_r15 H, hs_w15 H, hs_l15 H, hs_ob4 H, hs_g4_0 H, hs_t5 H, hs_r5 H, hs_w5 H, hs_l5 H, hs_g4_1 H, hs_t6 H, hs_r6 H, hs_w6 H, hs_l6 H, hs_g4_2 H, hs_t7 H, hs_r7 H, hs_w7 H, hs_l7 H, hs_g4_3 H, hs_t8 H, hs_r8 H, hs_w8 H, hs_l8 H, hs_ob9 H, hs_g9_0 H, hs_t10 H, hs_r10 H, hs_w10 H, hs_l10 H, hs_g9_1 H, hs_t11 H, hs_r11 H, hs_w11 H, hs_l11 H, hs_g9_2 H, hs_t12 H, hs_r12 H, hs_w12 H, hs_l12 H, hs_g9_3 H, hs_t13 H, hs_r13 H, hs_w13 H, hs_l13 H, hs_ob16 H, hs_g16 H, hs_t17 H, hs_r17 H, hs_w17 H, hs_l17 H, hs_ob5 H, hs_g50 H, hs_g51 H, hs_tu6 H, hs_ru6 H, hs_wu6 H, hs_lu6 H, hs_tu7 H, hs_ru7 H, hs_wu7 H, hs_lu7 H, rc_T R, rc_P R, rc_U R, rc_B R, rc_H R, rc_K R, mul3, mul6, mul16, mul40, mul100, Nat.add_zero, ho, hh1, hu, hqm]
        · rw [if_neg (fun q => h3 q.2.2.1)]
          intro VA
          refine ⟨M, ?_, Fr_refl _ _ _, C, V⟩
          simp (disch := omega) only [BH_beat_35, BH_beat_99, gd1, bs1, ↓reduceIte, d_nz, d_nn, or_true, true_or, or_false, false_or, decide_true, Sum.elim_inl, Sum.elim_inr, ↓l_m1, l_0, l_1, l_2, l_3, l_4, l_5, l_6, l_7, l_8, l_9, l_10, l_16, l_17, l_18, l_20, l_23, l_24, l_30, l_31, l_32, l_39, l_40, l_41, l_48, l_57, l_58, l_59, l_60, l_63, l_90, l_97, l_98, l_99, l_100, l_102, l_103, l_104, l_107, l_109, l_112, l_115, l_116, l_117, l_120, l_122, l_126, l_166, l_180, l_240, l_255, l_640, l_999, l_2656, l_3064, l_3704, l_3708, l_3712, l_3713, l_3893, l_155720, l_1000000, n_ltT, n_ltF, n_leT, n_leF, n_eqT, n_eqF, n_eqm, n_eqm', n_mltn, n_mlen, n_nltm, n_nlem, n_mltm, n_mlem, n_add, n_mul, n_sub, n_subm, n_cl, n_ofNat, n_div, n_mod, obM_si, rdI_si, wrI_si, lnI_si, grM_si', tgM_si', obM_sa, rdI_sa, wrI_sa, lnI_sa, grM_sa', tgM_sa', hs_ob H, hs_g0 H, hs_g1 H, hs_g2 H, hs_g3 H, hs_g4 H, hs_g5 H, hs_g6 H, hs_g7 H, hs_g8 H, hs_t1 H, hs_r1 H, hs_w1 H, hs_l1 H, hs_t2 H, hs_r2 H, hs_w2 H, hs_l2 H, hs_t3 H, hs_r3 H, hs_w3 H, hs_l3 H, hs_t14 H, hs_r14 H, hs_w14 H, hs_l14 H, hs_t15 H, hs_r15 H, hs_w15 H, hs_l15 H, hs_ob4 H, hs_g4_0 H, hs_t5 H, hs_r5 H, hs_w5 H, hs_l5 H, hs_g4_1 H, hs_t6 H, hs_r6 H, hs_w6 H, hs_l6 H, hs_g4_2 H, hs_t7 H, hs_r7 H, hs_w7 H, hs_l7 H, hs_g4_3 H, hs_t8 H, hs_r8 H, hs_w8 H, hs_l8 H, hs_ob9 H, hs_g9_0 H, hs_t10 H, hs_r10 H, hs_w10 H, hs_l10 H, hs_g9_1 H, hs_t11 H, hs_r11 H, hs_w11 H, hs_l11 H, hs_g9_2 H, hs_t12 H, hs_r12 H, hs_w12 H, hs_l12 H, hs_g9_3 H, hs_t13 H, hs_r13 H, hs_w13 H, hs_l13 H, hs_ob16 H, hs_g16 H, hs_t17 H, hs_r17 H, hs_w17 H, hs_l17 H, hs_ob5 H, hs_g50 H, hs_g51 H, hs_tu6 H, hs_ru6 H, hs_wu6 H, hs_lu6 H, hs_tu7 H, hs_ru7 H, hs_wu7 H, hs_lu7 H, rc_T R, rc_P R, rc_U R, rc_B R, rc_H R, rc_K R, mul3, mul6, mul16, mul40, mul100, Nat.add_zero, ho, hh1, hu]
      · rw [if_neg (fun q => h2 q.1)]
        intro VA
        have hh := cv_h C hi16 h2
        refine ⟨M, ?_, Fr_refl _ _ _, C, V⟩
        simp (disch := omega) only [BH_beat_35, BH_beat_99, gd1, bs1, ↓reduceIte, d_nz, d_nn, or_true, true_or, or_false, false_or, decide_true, Sum.elim_inl, Sum.elim_inr, ↓l_m1, l_0, l_1, l_2, l_3, l_4, l_5, l_6, l_7, l_8, l_9, l_10, l_16, l_17, l_18, l_20, l_23, l_24, l_30, l_31, l_32, l_39, l_40, l_41, l_48, l_57, l_58, l_59, l_60, l_63, l_90, l_97, l_98, l_99, l_100, l_102, l_103, l_104, l_107, l_109, l_112, l_115, l_116, l_117, l_120, l_122, l_126, l_166, l_180, l_240, l_255, l_640, l_999, l_2656, l_3064, l_3704, l_3708, l_3712, l_3713, l_3893, l_155720, l_1000000, n_ltT, n_ltF, n_leT, n_leF, n_eqT, n_eqF, n_eqm, n_eqm', n_mltn, n_mlen, n_nltm, n_nlem, n_mltm, n_mlem, n_add, n_mul, n_sub, n_subm, n_cl, n_ofNat, n_div, n_mod, obM_si, rdI_si, wrI_si, lnI_si, grM_si', tgM_si', obM_sa, rdI_sa, wrI_sa, lnI_sa, grM_sa', tgM_sa', hs_ob H, hs_g0 H, hs_g1 H, hs_g2 H, hs_g3 H, hs_g4 H, hs_g5 H, hs_g6 H, hs_g7 H, hs_g8 H, hs_t1 H, hs_r1 H, hs_w1 H, hs_l1 H, hs_t2 H, hs_r2 H, hs_w2 H, hs_l2 H, hs_t3 H, hs_r3 H, hs_w3 H, hs_l3 H, hs_t14 H, hs_r14 H, hs_w14 H, hs_l14 H, hs_t15 H, hs_r15 H, hs_w15 H, hs_l15 H, hs_ob4 H, hs_g4_0 H, hs_t5 H, hs_r5 H, hs_w5 H, hs_l5 H, hs_g4_1 H, hs_t6 H, hs_r6 H, hs_w6 H, hs_l6 H, hs_g4_2 H, hs_t7 H, hs_r7 H, hs_w7 H, hs_l7 H, hs_g4_3 H, hs_t8 H, hs_r8 H, hs_w8 H, hs_l8 H, hs_ob9 H, hs_g9_0 H, hs_t10 H, hs_r10 H, hs_w10 H, hs_l10 H, hs_g9_1 H, hs_t11 H, hs_r11 H, hs_w11 H, hs_l11 H, hs_g9_2 H, hs_t12 H, hs_r12 H, hs_w12 H, hs_l12 H, hs_g9_3 H, hs_t13 H, hs_r13 H, hs_w13 H, hs_l13 H, hs_ob16 H, hs_g16 H, hs_t17 H, hs_r17 H, hs_w17 H, hs_l17 H, hs_ob5 H, hs_g50 H, hs_g51 H, hs_tu6 H, hs_ru6 H, hs_wu6 H, hs_lu6 H, hs_tu7 H, hs_ru7 H, hs_wu7 H, hs_lu7 H, rc_T R, rc_P R, rc_U R, rc_B R, rc_H R, rc_K R, mul3, mul6, mul16, mul40, mul100, Nat.add_zero, ho, hh]
    · rw [if_neg (fun q => h1 ⟨Or.inl q.1, q.2.1⟩)]
      intro VA
      have ho : (giM M (h + 2) i = nI t) = False := by rw [ho]; exact eq_false h1
      refine ⟨M, ?_, Fr_refl _ _ _, C, V⟩
      simp (disch := omega) only [BH_beat_35, BH_beat_99, gd1, bs1, ↓reduceIte, d_nz, d_nn, or_true, true_or, or_false, false_or, decide_true, Sum.elim_inl, Sum.elim_inr, ↓l_m1, l_0, l_1, l_2, l_3, l_4, l_5, l_6, l_7, l_8, l_9, l_10, l_16, l_17, l_18, l_20, l_23, l_24, l_30, l_31, l_32, l_39, l_40, l_41, l_48, l_57, l_58, l_59, l_60, l_63, l_90, l_97, l_98, l_99, l_100, l_102, l_103, l_104, l_107, l_109, l_112, l_115, l_116, l_117, l_120, l_122, l_126, l_166, l_180, l_240, l_255, l_640, l_999, l_2656, l_3064, l_3704, l_3708, l_3712, l_3713, l_3893, l_155720, l_1000000, n_ltT, n_ltF, n_leT, n_leF, n_eqT, n_eqF, n_eqm, n_eqm', n_mltn, n_mlen, n_nltm, n_nlem, n_mltm, n_mlem, n_add, n_mul, n_sub, n_subm, n_cl, n_ofNat, n_div, n_mod, obM_si, rdI_si, wrI_si, lnI_si, grM_si', tgM_si', obM_sa, rdI_sa, wrI_sa, lnI_sa, grM_sa', tgM_sa', hs_ob H, hs_g0 H, hs_g1 H, hs_g2 H, hs_g3 H, hs_g4 H, hs_g5 H, hs_g6 H, hs_g7 H, hs_g8 H, hs_t1 H, hs_r1 H, hs_w1 H, hs_l1 H, hs_t2 H, hs_r2 H, hs_w2 H, hs_l2 H, hs_t3 H, hs_r3 H, hs_w3 H, hs_l3 H, hs_t14 H, hs_r14 H, hs_w14 H, hs_l14 H, hs_t15 H, hs_r15 H, hs_w15 H, hs_l15 H, hs_ob4 H, hs_g4_0 H, hs_t5 H, hs_r5 H, hs_w5 H, hs_l5 H, hs_g4_1 H, hs_t6 H, hs_r6 H, hs_w6 H, hs_l6 H, hs_g4_2 H, hs_t7 H, hs_r7 H, hs_w7 H, hs_l7 H, hs_g4_3 H, hs_t8 H, hs_r8 H, hs_w8 H, hs_l8 H, hs_ob9 H, hs_g9_0 H, hs_t10 H, hs_r10 H, hs_w10 H, hs_l10 H, hs_g9_1 H, hs_t11 H, hs_r11 H, hs_w11 H, hs_l11 H, hs_g9_2 H, hs_t12 H, hs_r12 H, hs_w12 H, hs_l12 H, hs_g9_3 H, hs_t13 H, hs_r13 H, hs_w13 H, hs_l13 H, hs_ob16 H, hs_g16 H, hs_t17 H, hs_r17 H, hs_w17 H, hs_l17 H, hs_ob5 H, hs_g50 H, hs_g51 H, hs_tu6 H, hs_ru6 H, hs_wu6 H, hs_lu6 H, hs_tu7 H, hs_ru7 H, hs_wu7 H, hs_lu7 H, rc_T R, rc_P R, rc_U R, rc_B R, rc_H R, rc_K R, mul3, mul6, mul16, mul40, mul100, Nat.add_zero, ho]
  · intro f M S C
    have H := C.1
    have R := C.2.1
    show BH_beat_35 (LH_beat_35 f) h (nI t) (nI (rP ρ)) M = _
    simp (disch := omega) only [BH_beat_35, gd1, bs1, ↓reduceIte, d_nz, d_nn, or_true, true_or, or_false, false_or, decide_true, Sum.elim_inl, Sum.elim_inr, ↓l_m1, l_0, l_1, l_2, l_3, l_4, l_5, l_6, l_7, l_8, l_9, l_10, l_16, l_17, l_18, l_20, l_23, l_24, l_30, l_31, l_32, l_39, l_40, l_41, l_48, l_57, l_58, l_59, l_60, l_63, l_90, l_97, l_98, l_99, l_100, l_102, l_103, l_104, l_107, l_109, l_112, l_115, l_116, l_117, l_120, l_122, l_126, l_166, l_180, l_240, l_255, l_640, l_999, l_2656, l_3064, l_3704, l_3708, l_3712, l_3713, l_3893, l_155720, l_1000000, n_ltT, n_ltF, n_leT, n_leF, n_eqT, n_eqF, n_eqm, n_eqm', n_mltn, n_mlen, n_nltm, n_nlem, n_mltm, n_mlem, n_add, n_mul, n_sub, n_subm, n_cl, n_ofNat, n_div, n_mod, obM_si, rdI_si, wrI_si, lnI_si, grM_si', tgM_si', obM_sa, rdI_sa, wrI_sa, lnI_sa, grM_sa', tgM_sa', hs_ob H, hs_g0 H, hs_g1 H, hs_g2 H, hs_g3 H, hs_g4 H, hs_g5 H, hs_g6 H, hs_g7 H, hs_g8 H, hs_t1 H, hs_r1 H, hs_w1 H, hs_l1 H, hs_t2 H, hs_r2 H, hs_w2 H, hs_l2 H, hs_t3 H, hs_r3 H, hs_w3 H, hs_l3 H, hs_t14 H, hs_r14 H, hs_w14 H, hs_l14 H, hs_t15 H, hs_r15 H, hs_w15 H, hs_l15 H, hs_ob4 H, hs_g4_0 H, hs_t5 H, hs_r5 H, hs_w5 H, hs_l5 H, hs_g4_1 H, hs_t6 H, hs_r6 H, hs_w6 H, hs_l6 H, hs_g4_2 H, hs_t7 H, hs_r7 H, hs_w7 H, hs_l7 H, hs_g4_3 H, hs_t8 H, hs_r8 H, hs_w8 H, hs_l8 H, hs_ob9 H, hs_g9_0 H, hs_t10 H, hs_r10 H, hs_w10 H, hs_l10 H, hs_g9_1 H, hs_t11 H, hs_r11 H, hs_w11 H, hs_l11 H, hs_g9_2 H, hs_t12 H, hs_r12 H, hs_w12 H, hs_l12 H, hs_g9_3 H, hs_t13 H, hs_r13 H, hs_w13 H, hs_l13 H, hs_ob16 H, hs_g16 H, hs_t17 H, hs_r17 H, hs_w17 H, hs_l17 H, hs_ob5 H, hs_g50 H, hs_g51 H, hs_tu6 H, hs_ru6 H, hs_wu6 H, hs_lu6 H, hs_tu7 H, hs_ru7 H, hs_wu7 H, hs_lu7 H, rc_T R, rc_P R, rc_U R, rc_B R, rc_H R, rc_K R]
theorem cBeat (C : CC M h ρ β S) (V : Inv ρ β S) (ht : t < rT ρ) : ∃ M', fH_beat h (nI t) M = some M' ∧ Fr M M' (h + 1) (h + 13) ∧ CC M' h ρ β (aTick ρ t S) ∧ Inv ρ β (aTick ρ t S) := by
  obtain ⟨M1, e1, F1, C1, V1⟩ := cHomes C V ht
  obtain ⟨M2, e2, F2, C2, V2⟩ := cQ1 C1 V1 ht
  obtain ⟨M3, e3, F3, C3, V3⟩ := cQ2 C2 V2 ht
  have H := C1.1
  refine ⟨M3, ?_, Fr_tr F1 (Fr_tr F2 F3), C3, V3⟩
  simp only [fH_beat, ↓l_m1, l_0, l_1, l_2, l_3, l_4, l_5, l_6, l_7, l_8, l_9, l_10, l_16, l_17, l_18, l_20, l_23, l_24, l_30, l_31, l_32, l_39, l_40, l_41, l_48, l_57, l_58, l_59, l_60, l_63, l_90, l_97, l_98, l_99, l_100, l_102, l_103, l_104, l_107, l_109, l_112, l_115, l_116, l_117, l_120, l_122, l_126, l_166, l_180, l_240, l_255, l_640, l_999, l_2656, l_3064, l_3704, l_3708, l_3712, l_3713, l_3893, l_155720, l_1000000, e1, bs1, hs_ob H, gd1, e2, e3]
theorem cAband (C : CC M h ρ β S) (V : Inv ρ β S) (hp : p < 16) (hk : kd S p = 1 ∨ kd S p = 2) : ∃ M', fC_drop (h + 4) (nI p) M = some M' ∧ Fr M (siM M' (h + 2) p mI) (h + 1) (h + 13) ∧ CC (siM M' (h + 2) p mI) h ρ β (oAband p S) ∧ M'.2 = M.2 := by
  have hb := hs_b C.1
  obtain ⟨M1, e1, F1, C1⟩ := cDrop C V hp hk
  refine ⟨M1, e1, Fr_tr (Fr_w F1 (by omega) (by omega)) (Fr_si (by omega) (by omega)), ?_, F1.1⟩
  obtain ⟨g1, g2, g3, g4, g5, g6, g7, g8⟩ := leave_pr p S
  have kz : ∀ x, kd (oAband p S) x = 0 ↔ kd (oDrop p S) x = 0 := fun x => by
    show ud (kd S) p 3 x = 0 ↔ ud (kd S) p 2 x = 0
    by_cases ex : x = p
    · subst ex; rw [ud_s, ud_s]; omega
    · rw [ud_n _ _ ex, ud_n _ _ ex]
  refine cc_qu C1 (Fr_si (by omega) (by omega)) ⟨rfl, rfl, rfl, rfl, rfl⟩ (fun x _ => cut_eq (kz x) (fun _ => rfl)) ?_ ?_
  · intro x hx
    simp (disch := omega) only [giM_un, giM_ud]
    rw [cv_k C1 hx, cv_c C1 hx]
    unfold kI oI
    show (if ud (kd S) p 2 x = 0 then mI else nI (cl (oLeave p S) x)) = (if ud (kd S) p 3 x = 0 then mI else nI (cl (oLeave p S) x)) ∧ _ = (if ud (kd S) p 3 x = 1 ∨ ud (kd S) p 3 x = 2 then nI (ow (oLeave p S) x) else mI) ∧ _ ∧ (ud (kd S) p 3 x ≠ 1 → _)
    by_cases ex : x = p
    · subst ex
      rw [ud_s, ud_s, ud_s]
      exact ⟨rfl, rfl, rfl, fun _ => cv_h C1 hx (show ud (kd S) x 2 x ≠ 1 by rw [ud_s]; omega)⟩
    · rw [ud_n _ _ ex, ud_n _ _ ex, ud_n _ _ ex, cv_o C1 hx]
      refine ⟨rfl, ?_, rfl, fun q => cv_h C1 hx (show ud (kd S) p 2 x ≠ 1 by rw [ud_n _ _ ex]; exact q)⟩
      unfold oI
      show (if ud (kd S) p 2 x = 1 ∨ ud (kd S) p 2 x = 2 then _ else _) = _
      rw [ud_n _ _ ex]
      rfl
  · have := cv_Q C1
    unfold ChM at this ⊢
    simp (disch := omega) only [giM_un]
    exact this
theorem cc_lv {v : Nat} (C : CC M h ρ β S) (ht : t < 4) : CC (siM M (h + 14) t (nI v)) h ρ β (oLv t v S) := by
  have H := C.1
  have hb := hs_b H
  obtain ⟨-, R, hR, C1, C2, C3, C4, C5, C6⟩ := C
  refine ⟨HS_2 rfl H, RuC_of R ?_ ?_ ?_, hR, ?_, ?_, ?_, ?_, ?_, ?_⟩
  · simp (disch := omega) only [giM_un]
  · simp (disch := omega) only [giM_un]
  · simp (disch := omega) only [giM_un]
  · simp (disch := omega) only [giM_un]
    exact C1
  · unfold ChM
    simp (disch := omega) only [giM_un]
    exact C2
  · unfold ChM
    simp (disch := omega) only [giM_un]
    exact C3
  · simp (disch := omega) only [giM_un]
    exact C4
  · intro x hx
    have := C5 x hx
    simp (disch := omega) only [giM_un, giM_ud]
    refine ⟨fun hT => ?_, this.2⟩
    show ud (giM M (h + 14)) t (nI v) x = nI (ud (lv S) t v x)
    by_cases ex : x = t
    · rw [ex, ud_s, ud_s]
    · rw [ud_n _ _ ex, ud_n _ _ ex]
      exact this.1 hT
  · simp (disch := omega) only [giM_un]
    exact C6
theorem inv_lv {v : Nat} (hv : v ≤ 1) (V : Inv ρ β S) : Inv ρ β (oLv t v S) := by
  obtain ⟨h1, h2, h3, h4, h5⟩ := V
  refine ⟨h1, h2, h3, h4, fun x hx => ?_, h5.2⟩
  have := h5.1 x hx
  show ud (lv S) t v x ≤ 1 ∧ gt S x ≤ β
  by_cases ex : x = t
  · rw [ex, ud_s]; rw [ex] at this; exact ⟨hv, this.2⟩
  · rw [ud_n _ _ ex]; exact this
theorem inv_fr {g : Nat → HSt → HSt} {n : Nat} (hg : ∀ i S, i < n → Inv ρ β S → Inv ρ β (g i S)) (V : Inv ρ β S) : ∀ k, k ≤ n → Inv ρ β (fr g k S)
  | 0, _ => V
  | k + 1, hk => hg k _ (by omega) (inv_fr hg V k (by omega))
theorem inv_homes (hR : RuOK ρ) (ht : t < rT ρ) (V : Inv ρ β S) : Inv ρ β (aHomes ρ t S) := by
  have hb := ru_b hR
  exact inv_fr (n := rP ρ) (fun i S hi V => inv_aHome (by omega) (by omega) V) V _ (Nat.le_refl _)
theorem inv_tick (hR : RuOK ρ) (ht : t < rT ρ) (V : Inv ρ β S) : Inv ρ β (aTick ρ t S) := by
  have hb := ru_b hR
  exact inv_fr (n := rP ρ) (fun i S hi V => inv_aQ2 (by omega) V) (inv_fr (n := rP ρ) (fun i S hi V => inv_aQ1 (by omega) V) (inv_homes hR ht V) _ (Nat.le_refl _)) _ (Nat.le_refl _)
theorem inv_turn (hR : RuOK ρ) (ht : t < rT ρ) (V : Inv ρ β S) : Inv ρ β (aTurn ρ t S) := by
  have hb := ru_b hR
  unfold aTurn
  by_cases h1 : lv S t = 1
  · rw [if_pos h1]
    exact inv_lv (by omega) (inv_fr (n := rP ρ) (fun i S hi V => inv_aT1 (by omega) V) (inv_homes hR ht V) _ (Nat.le_refl _))
  · rw [if_neg h1]
    exact inv_lv (by omega) V
theorem cTurn (C : CC M h ρ β S) (V : Inv ρ β S) (ht : t < rT ρ) : ∃ M', fH_turnOver h (nI t) M = some M' ∧ Fr M M' (h + 1) (h + 14) ∧ CC M' h ρ β (aTurn ρ t S) := by
  have H := C.1
  have hb := hs_b H
  have hR := ru_b C.2.2.1
  have hv := (V.2.2.2.2.1 t (by omega)).1
  have hL := isLiving_ok C V ht
  unfold aTurn
  by_cases h1 : lv S t = 1
  · rw [if_pos h1]
    rw [h1] at hL
    obtain ⟨M1, e1, F1, C1, V1⟩ := cSend C V ht
    have key : ∃ M', LH_turnOver_24 1000000 h (nI t) (nI 0) M1 = some (siM M' (h + 14) t (nI 0)) ∧ Fr M1 M' (h + 1) (h + 13) ∧ CC M' h ρ β (aTurns ρ t S) := by
      have k2 := loop_ex (L := fun f i M => LH_turnOver_24 f h (nI t) (nI i) M) (n := rP ρ) (fun i M' => Fr M1 M' (h + 1) (h + 13) ∧ CC M' h ρ β (fr (aT1 ρ t) i (aHomes ρ t S)) ∧ Inv ρ β (fr (aT1 ρ t) i (aHomes ρ t S))) (fun r => ∃ M', r = siM M' (h + 14) t (nI 0) ∧ Fr M1 M' (h + 1) (h + 13) ∧ CC M' h ρ β (aTurns ρ t S))
        (fun f i M hi hP => by
          obtain ⟨F0, C, V⟩ := hP
          show ∃ M', BH_turnOver_24 (LH_turnOver_24 f) h (nI t) (nI i) M = _ ∧ Fr M1 M' (h + 1) (h + 13) ∧ CC M' h ρ β (aT1 ρ t i (fr (aT1 ρ t) i (aHomes ρ t S))) ∧ Inv ρ β (aT1 ρ t i (fr (aT1 ρ t) i (aHomes ρ t S)))
          generalize fr (aT1 ρ t) i (aHomes ρ t S) = S at *
          have hi16 : i < 16 := by omega
          have H := C.1
          have R := C.2.1
          have VA := inv_aT1 (t := t) hi16 V
          have ho := own_is C V hi16 ht
          have hu := usedOf_ok C V hi16
          have hu2 := usd_le C.2.2.1 V hi16
          revert VA
          unfold aT1
          by_cases h1 : (kd S i = 1 ∨ kd S i = 2) ∧ ow S i = t
          · have ho : giM M (h + 2) i = nI t := ho.mpr h1
            rw [if_pos h1]
            by_cases h3 : usd ρ S i = 0
            · rw [if_pos h3]
              intro VA
              obtain ⟨M', e, F, C'⟩ := cEmpty C V hi16 h1.1
              refine ⟨M', ?_, Fr_tr F0 F, C', VA⟩
              rw [h3] at hu
              simp (disch := omega) only [BH_turnOver_24, BH_turnOver_88, gd1, bs1, ↓reduceIte, d_nz, d_nn, or_true, true_or, or_false, false_or, decide_true, Sum.elim_inl, Sum.elim_inr, ↓l_m1, l_0, l_1, l_2, l_3, l_4, l_5, l_6, l_7, l_8, l_9, l_10, l_16, l_17, l_18, l_20, l_23, l_24, l_30, l_31, l_32, l_39, l_40, l_41, l_48, l_57, l_58, l_59, l_60, l_63, l_90, l_97, l_98, l_99, l_100, l_102, l_103, l_104, l_107, l_109, l_112, l_115, l_116, l_117, l_120, l_122, l_126, l_166, l_180, l_240, l_255, l_640, l_999, l_2656, l_3064, l_3704, l_3708, l_3712, l_3713, l_3893, l_155720, l_1000000, n_ltT, n_ltF, n_leT, n_leF, n_eqT, n_eqF, n_eqm, n_eqm', n_mltn, n_mlen, n_nltm, n_nlem, n_mltm, n_mlem, n_add, n_mul, n_sub, n_subm, n_cl, n_ofNat, n_div, n_mod, obM_si, rdI_si, wrI_si, lnI_si, grM_si', tgM_si', obM_sa, rdI_sa, wrI_sa, lnI_sa, grM_sa', tgM_sa', hs_ob H, hs_g0 H, hs_g1 H, hs_g2 H, hs_g3 H, hs_g4 H, hs_g5 H, hs_g6 H, hs_g7 H, hs_g8 H, hs_t1 H, hs_r1 H, hs_w1 H, hs_l1 H, hs_t2 H, hs_r2 H, hs_w2 H, hs_l2 H, hs_t3 H, hs_r3 H, hs_w3 H, hs_l3 H, hs_t14 H, hs_r14 H, hs_w14 H, hs_l14 H, hs_t15 H, hs_r15 H, hs_w15 H, hs_l15 H, hs_ob4 H, hs_g4_0 H, hs_t5 H, hs_r5 H, hs_w5 H, hs_l5 H, hs_g4_1 H, hs_t6 H, hs_r6 H, hs_w6 H, hs_l6 H, hs_g4_2 H, hs_t7 H, hs_r7 H, hs_w7 H, hs_l7 H, hs_g4_3 H, hs_t8 H, hs_r8 H, hs_w8 H, hs_l8 H, hs_ob9 H, hs_g9_0 H, hs_t10 H, hs_r10 H, hs_w10 H, hs_l10 H, hs_g9_1 H, hs_t11 H, hs_r11 H, hs_w11 H, hs_l11 H, hs_g9_2 H, hs_t12 H, hs_r12 H, hs_w12 H, hs_l12 H, hs_g9_3 H, hs_t13 H, hs_r13 H, hs_w13 H, hs_l13 H, hs_ob16 H, hs_g16 H, hs_t17 H, hs_r17 H, hs_w17 H, hs_l17 H, hs_ob5 H, hs_g50 H, hs_g51 H, hs_tu6 H, hs_ru6 H, hs_wu6 H, hs_lu6 H, hs_tu7 H, hs_ru7 H, hs_wu7 H, hs_lu7 H, rc_T R, rc_P R, rc_U R, rc_B R, rc_H R, rc_K R, mul3, mul6, mul16, mul40, mul100, Nat.add_zero, ho, hu, e]
            · rw [if_neg h3]
              intro VA
              obtain ⟨M', e, F, C', s1⟩ := cAband C V hi16 h1.1
              refine ⟨_, ?_, Fr_tr F0 F, C', VA⟩
              simp (disch := omega) only [BH_turnOver_24, BH_turnOver_63, BH_turnOver_88, gd1, bs1, ↓reduceIte, d_nz, d_nn, or_true, true_or, or_false, false_or, decide_true, Sum.elim_inl, Sum.elim_inr, ↓l_m1, l_0, l_1, l_2, l_3, l_4, l_5, l_6, l_7, l_8, l_9, l_10, l_16, l_17, l_18, l_20, l_23, l_24, l_30, l_31, l_32, l_39, l_40, l_41, l_48, l_57, l_58, l_59, l_60, l_63, l_90, l_97, l_98, l_99, l_100, l_102, l_103, l_104, l_107, l_109, l_112, l_115, l_116, l_117, l_120, l_122, l_126, l_166, l_180, l_240, l_255, l_640, l_999, l_2656, l_3064, l_3704, l_3708, l_3712, l_3713, l_3893, l_155720, l_1000000, n_ltT, n_ltF, n_leT, n_leF, n_eqT, n_eqF, n_eqm, n_eqm', n_mltn, n_mlen, n_nltm, n_nlem, n_mltm, n_mlem, n_add, n_mul, n_sub, n_subm, n_cl, n_ofNat, n_div, n_mod, obM_si, rdI_si, wrI_si, lnI_si, grM_si', tgM_si', obM_sa, rdI_sa, wrI_sa, lnI_sa, grM_sa', tgM_sa', obM_2 s1, rdI_2 s1, wrI_2 s1, lnI_2 s1, grM_2 s1, tgM_2 s1, hs_ob H, hs_g0 H, hs_g1 H, hs_g2 H, hs_g3 H, hs_g4 H, hs_g5 H, hs_g6 H, hs_g7 H, hs_g8 H, hs_t1 H, hs_r1 H, hs_w1 H, hs_l1 H, hs_t2 H, hs_r2 H, hs_w2 H, hs_l2 H, hs_t3 H, hs_r3 H, hs_w3 H, hs_l3 H, hs_t14 H, hs_r14 H, hs_w14 H, hs_l14 H, hs_t15 H, hs_r15 H, hs_w15 H, hs_l15 H, hs_ob4 H, hs_g4_0 H, hs_t5 H, hs_r5 H, hs_w5 H, hs_l5 H, hs_g4_1 H, hs_t6 H, hs_r6 H, hs_w6 H, hs_l6 H, hs_g4_2 H, hs_t7 H, hs_r7 H, hs_w7 H, hs_l7 H, hs_g4_3 H, hs_t8 H, hs_r8 H, hs_w8 H, hs_l8 H, hs_ob9 H, hs_g9_0 H, hs_t10 H, hs_r10 H, hs_w10 H, hs_l10 H, hs_g9_1 H, hs_t11 H, hs_r11 H, hs_w11 H, hs_l11 H, hs_g9_2 H, hs_t12 H, hs_r12 H, hs_w12 H, hs_l12 H, hs_g9_3 H, hs_t13 H, hs_r13 H, hs_w13 H, hs_l13 H, hs_ob16 H, hs_g16 H, hs_t17 H, hs_r17 H, hs_w17 H, hs_l17 H, hs_ob5 H, hs_g50 H, hs_g51 H, hs_tu6 H, hs_ru6 H, hs_wu6 H, hs_lu6 H, hs_tu7 H, hs_ru7 H, hs_wu7 H, hs_lu7 H, rc_T R, rc_P R, rc_U R, rc_B R, rc_H R, rc_K R, mul3, mul6, mul16, mul40, mul100, Nat.add_zero, ho, hu, e]
          · rw [if_neg h1]
            intro VA
            have ho : (giM M (h + 2) i = nI t) = False := by rw [ho]; exact eq_false h1
            refine ⟨M, ?_, F0, C, V⟩
            simp (disch := omega) only [BH_turnOver_24, BH_turnOver_63, BH_turnOver_88, gd1, bs1, ↓reduceIte, d_nz, d_nn, or_true, true_or, or_false, false_or, decide_true, Sum.elim_inl, Sum.elim_inr, ↓l_m1, l_0, l_1, l_2, l_3, l_4, l_5, l_6, l_7, l_8, l_9, l_10, l_16, l_17, l_18, l_20, l_23, l_24, l_30, l_31, l_32, l_39, l_40, l_41, l_48, l_57, l_58, l_59, l_60, l_63, l_90, l_97, l_98, l_99, l_100, l_102, l_103, l_104, l_107, l_109, l_112, l_115, l_116, l_117, l_120, l_122, l_126, l_166, l_180, l_240, l_255, l_640, l_999, l_2656, l_3064, l_3704, l_3708, l_3712, l_3713, l_3893, l_155720, l_1000000, n_ltT, n_ltF, n_leT, n_leF, n_eqT, n_eqF, n_eqm, n_eqm', n_mltn, n_mlen, n_nltm, n_nlem, n_mltm, n_mlem, n_add, n_mul, n_sub, n_subm, n_cl, n_ofNat, n_div, n_mod, obM_si, rdI_si, wrI_si, lnI_si, grM_si', tgM_si', obM_sa, rdI_sa, wrI_sa, lnI_sa, grM_sa', tgM_sa', hs_ob H, hs_g0 H, hs_g1 H, hs_g2 H, hs_g3 H, hs_g4 H, hs_g5 H, hs_g6 H, hs_g7 H, hs_g8 H, hs_t1 H, hs_r1 H, hs_w1 H, hs_l1 H, hs_t2 H, hs_r2 H, hs_w2 H, hs_l2 H, hs_t3 H, hs_r3 H, hs_w3 H, hs_l3 H, hs_t14 H, hs_r14 H, hs_w14 H, hs_l14 H, hs_t15 H, hs_r15 H, hs_w15 H, hs_l15 H, hs_ob4 H, hs_g4_0 H, hs_t5 H, hs_r5 H, hs_w5 H, hs_l5 H, hs_g4_1 H, hs_t6 H, hs_r6 H, hs_w6 H, hs_l6 H, hs_g4_2 H, hs_t7 H, hs_r7 H, hs_w7 H, hs_l7 H, hs_g4_3 H, hs_t8 H, hs_r8 H, hs_w8 H, hs_l8 H, hs_ob9 H, hs_g9_0 H, hs_t10 H, hs_r10 H, hs_w10 H, hs_l10 H, hs_g9_1 H, hs_t11 H, hs_r11 H, hs_w11 H, hs_l11 H, hs_g9_2 H, hs_t12 H, hs_r12 H, hs_w12 H, hs_l12 H, hs_g9_3 H, hs_t13 H, hs_r13 H, hs_w13 H, hs_l13 H, hs_ob16 H, hs_g16 H, hs_t17 H, hs_r17 H, hs_w17 H, hs_l17 H, hs_ob5 H, hs_g50 H, hs_g51 H, hs_tu6 H, hs_ru6 H, hs_wu6 H, hs_lu6 H, hs_tu7 H, hs_ru7 H, hs_wu7 H, hs_lu7 H, rc_T R, rc_P R, rc_U R, rc_B R, rc_H R, rc_K R, mul3, mul6, mul16, mul40, mul100, Nat.add_zero, ho])
        (fun f M hP => by
          obtain ⟨F0, C, V⟩ := hP
          have H := C.1
          have R := C.2.1
          refine ⟨siM M (h + 14) t (nI 0), ?_, M, rfl, F0, C⟩
          show BH_turnOver_24 (LH_turnOver_24 f) h (nI t) (nI (rP ρ)) M = _
          simp (disch := omega) only [BH_turnOver_24, gd1, bs1, ↓reduceIte, d_nz, d_nn, or_true, true_or, or_false, false_or, decide_true, Sum.elim_inl, Sum.elim_inr, ↓l_m1, l_0, l_1, l_2, l_3, l_4, l_5, l_6, l_7, l_8, l_9, l_10, l_16, l_17, l_18, l_20, l_23, l_24, l_30, l_31, l_32, l_39, l_40, l_41, l_48, l_57, l_58, l_59, l_60, l_63, l_90, l_97, l_98, l_99, l_100, l_102, l_103, l_104, l_107, l_109, l_112, l_115, l_116, l_117, l_120, l_122, l_126, l_166, l_180, l_240, l_255, l_640, l_999, l_2656, l_3064, l_3704, l_3708, l_3712, l_3713, l_3893, l_155720, l_1000000, n_ltT, n_ltF, n_leT, n_leF, n_eqT, n_eqF, n_eqm, n_eqm', n_mltn, n_mlen, n_nltm, n_nlem, n_mltm, n_mlem, n_add, n_mul, n_sub, n_subm, n_cl, n_ofNat, n_div, n_mod, obM_si, rdI_si, wrI_si, lnI_si, grM_si', tgM_si', obM_sa, rdI_sa, wrI_sa, lnI_sa, grM_sa', tgM_sa', hs_ob H, hs_g0 H, hs_g1 H, hs_g2 H, hs_g3 H, hs_g4 H, hs_g5 H, hs_g6 H, hs_g7 H, hs_g8 H, hs_t1 H, hs_r1 H, hs_w1 H, hs_l1 H, hs_t2 H, hs_r2 H, hs_w2 H, hs_l2 H, hs_t3 H, hs_r3 H, hs_w3 H, hs_l3 H, hs_t14 H, hs_r14 H, hs_w14 H, hs_l14 H, hs_t15 H, hs_r15 H, hs_w15 H, hs_l15 H, hs_ob4 H, hs_g4_0 H, hs_t5 H, hs_r5 H, hs_w5 H, hs_l5 H, hs_g4_1 H, hs_t6 H, hs_r6 H, hs_w6 H, hs_l6 H, hs_g4_2 H, hs_t7 H, hs_r7 H, hs_w7 H, hs_l7 H, hs_g4_3 H, hs_t8 H, hs_r8 H, hs_w8 H, hs_l8 H, hs_ob9 H, hs_g9_0 H, hs_t10 H, hs_r10 H, hs_w10 H, hs_l10 H, hs_g9_1 H, hs_t11 H, hs_r11 H, hs_w11 H, hs_l11 H, hs_g9_2 H, hs_t12 H, hs_r12 H, hs_w12 H, hs_l12 H, hs_g9_3 H, hs_t13 H, hs_r13 H, hs_w13 H, hs_l13 H, hs_ob16 H, hs_g16 H, hs_t17 H, hs_r17 H, hs_w17 H, hs_l17 H, hs_ob5 H, hs_g50 H, hs_g51 H, hs_tu6 H, hs_ru6 H, hs_wu6 H, hs_lu6 H, hs_tu7 H, hs_ru7 H, hs_wu7 H, hs_lu7 H, rc_T R, rc_P R, rc_U R, rc_B R, rc_H R, rc_K R]) (rP ρ) 1000000 0 M1 (by omega) (by omega) ⟨Fr_refl _ _ _, C1, V1⟩
      obtain ⟨r, e, M', rfl, F, C'⟩ := k2
      exact ⟨M', e, F, C'⟩
    obtain ⟨M2, e2, F2, C2⟩ := key
    have H1 := C1.1
    refine ⟨_, ?_, Fr_tr (Fr_w (Fr_tr F1 F2) (by omega) (by omega)) (Fr_si (by omega) (by omega)), cc_lv C2 (by omega)⟩
    simp (disch := omega) only [fH_turnOver, gd1, bs1, ↓reduceIte, d_nz, d_nn, or_true, true_or, or_false, false_or, decide_true, Sum.elim_inl, Sum.elim_inr, ↓l_m1, l_0, l_1, l_2, l_3, l_4, l_5, l_6, l_7, l_8, l_9, l_10, l_16, l_17, l_18, l_20, l_23, l_24, l_30, l_31, l_32, l_39, l_40, l_41, l_48, l_57, l_58, l_59, l_60, l_63, l_90, l_97, l_98, l_99, l_100, l_102, l_103, l_104, l_107, l_109, l_112, l_115, l_116, l_117, l_120, l_122, l_126, l_166, l_180, l_240, l_255, l_640, l_999, l_2656, l_3064, l_3704, l_3708, l_3712, l_3713, l_3893, l_155720, l_1000000, n_ltT, n_ltF, n_leT, n_leF, n_eqT, n_eqF, n_eqm, n_eqm', n_mltn, n_mlen, n_nltm, n_nlem, n_mltm, n_mlem, n_add, n_mul, n_sub, n_subm, n_cl, n_ofNat, n_div, n_mod, obM_si, rdI_si, wrI_si, lnI_si, grM_si', tgM_si', obM_sa, rdI_sa, wrI_sa, lnI_sa, grM_sa', tgM_sa', hs_ob H, hs_g0 H, hs_g1 H, hs_g2 H, hs_g3 H, hs_g4 H, hs_g5 H, hs_g6 H, hs_g7 H, hs_g8 H, hs_t1 H, hs_r1 H, hs_w1 H, hs_l1 H, hs_t2 H, hs_r2 H, hs_w2 H, hs_l2 H, hs_t3 H, hs_r3 H, hs_w3 H, hs_l3 H, hs_t14 H, hs_r14 H, hs_w14 H, hs_l14 H, hs_t15 H, hs_r15 H, hs_w15 H, hs_l15 H, hs_ob4 H, hs_g4_0 H, hs_t5 H, hs_r5 H, hs_w5 H, hs_l5 H, hs_g4_1 H, hs_t6 H, hs_r6 H, hs_w6 H, hs_l6 H, hs_g4_2 H, hs_t7 H, hs_r7 H, hs_w7 H, hs_l7 H, hs_g4_3 H, hs_t8 H, hs_r8 H, hs_w8 H, hs_l8 H, hs_ob9 H, hs_g9_0 H, hs_t10 H, hs_r10 H, hs_w10 H, hs_l10 H, hs_g9_1 H, hs_t11 H, hs_r11 H, hs_w11 H, hs_l11 H, hs_g9_2 H, hs_t12 H, hs_r12 H, hs_w12 H, hs_l12 H, hs_g9_3 H, hs_t13 H, hs_r13 H, hs_w13 H, hs_l13 H, hs_ob16 H, hs_g16 H, hs_t17 H, hs_r17 H, hs_w17 H, hs_l17 H, hs_ob5 H, hs_g50 H, hs_g51 H, hs_tu6 H, hs_ru6 H, hs_wu6 H, hs_lu6 H, hs_tu7 H, hs_ru7 H, hs_wu7 H, hs_lu7 H, hL, e1, e2]
  · rw [if_neg h1]
    have h0 : lv S t = 0 := by omega
    rw [h0] at hL
    refine ⟨_, ?_, Fr_si (by omega) (by omega), cc_lv C (by omega)⟩
    simp (disch := omega) only [fH_turnOver, gd1, bs1, ↓reduceIte, d_nz, d_nn, or_true, true_or, or_false, false_or, decide_true, Sum.elim_inl, Sum.elim_inr, ↓l_m1, l_0, l_1, l_2, l_3, l_4, l_5, l_6, l_7, l_8, l_9, l_10, l_16, l_17, l_18, l_20, l_23, l_24, l_30, l_31, l_32, l_39, l_40, l_41, l_48, l_57, l_58, l_59, l_60, l_63, l_90, l_97, l_98, l_99, l_100, l_102, l_103, l_104, l_107, l_109, l_112, l_115, l_116, l_117, l_120, l_122, l_126, l_166, l_180, l_240, l_255, l_640, l_999, l_2656, l_3064, l_3704, l_3708, l_3712, l_3713, l_3893, l_155720, l_1000000, n_ltT, n_ltF, n_leT, n_leF, n_eqT, n_eqF, n_eqm, n_eqm', n_mltn, n_mlen, n_nltm, n_nlem, n_mltm, n_mlem, n_add, n_mul, n_sub, n_subm, n_cl, n_ofNat, n_div, n_mod, obM_si, rdI_si, wrI_si, lnI_si, grM_si', tgM_si', obM_sa, rdI_sa, wrI_sa, lnI_sa, grM_sa', tgM_sa', hs_ob H, hs_g0 H, hs_g1 H, hs_g2 H, hs_g3 H, hs_g4 H, hs_g5 H, hs_g6 H, hs_g7 H, hs_g8 H, hs_t1 H, hs_r1 H, hs_w1 H, hs_l1 H, hs_t2 H, hs_r2 H, hs_w2 H, hs_l2 H, hs_t3 H, hs_r3 H, hs_w3 H, hs_l3 H, hs_t14 H, hs_r14 H, hs_w14 H, hs_l14 H, hs_t15 H, hs_r15 H, hs_w15 H, hs_l15 H, hs_ob4 H, hs_g4_0 H, hs_t5 H, hs_r5 H, hs_w5 H, hs_l5 H, hs_g4_1 H, hs_t6 H, hs_r6 H, hs_w6 H, hs_l6 H, hs_g4_2 H, hs_t7 H, hs_r7 H, hs_w7 H, hs_l7 H, hs_g4_3 H, hs_t8 H, hs_r8 H, hs_w8 H, hs_l8 H, hs_ob9 H, hs_g9_0 H, hs_t10 H, hs_r10 H, hs_w10 H, hs_l10 H, hs_g9_1 H, hs_t11 H, hs_r11 H, hs_w11 H, hs_l11 H, hs_g9_2 H, hs_t12 H, hs_r12 H, hs_w12 H, hs_l12 H, hs_g9_3 H, hs_t13 H, hs_r13 H, hs_w13 H, hs_l13 H, hs_ob16 H, hs_g16 H, hs_t17 H, hs_r17 H, hs_w17 H, hs_l17 H, hs_ob5 H, hs_g50 H, hs_g51 H, hs_tu6 H, hs_ru6 H, hs_wu6 H, hs_lu6 H, hs_tu7 H, hs_ru7 H, hs_wu7 H, hs_lu7 H, hL]
end CA
