/-! YEARS: one year -/
def aTk (ρ : Rul) (t : Nat) (v : Int32) (S : HSt) : HSt :=
  if lv S t = 1 then match kcF ρ v with
    | none => S
    | some c => match pgF ρ t c S with
      | none => S
      | some p => oNote (100 * p + aBlk ρ t c p S, t, hwF t p S) (aGet ρ t c p S)
  else S
def aGv (ρ : Rul) (t x : Nat) (S : HSt) : HSt := if lv S t = 1 then aFree ρ t (x / 100) (x % 100) S else S
def aYr (ρ : Rul) (s : Int64) (S : HSt) : Int64 × HSt :=
  if 2 ≤ dnY (stY (stY s)) 3 then
    if HT ρ S = 0 then (stY (stY s), S)
    else (stY (stY (stY s)), aGv ρ (dnY (stY s) (rT ρ)) ((heA ρ S 0 (rP ρ)).getD (dnY (stY (stY (stY s))) (HT ρ S)) 0) S)
  else (stY (stY (stY s)), aTk ρ (dnY (stY s) (rT ρ)) (nI (dnY (stY (stY (stY s))) (rU ρ) + 1)) S)
section YA
variable {M M1 M2 : Mem} {ρ : Rul} {β : Nat} {S : HSt} {t : Nat}
theorem heL_len (V : Inv ρ β S) {p : Nat} (hp : p < 16) : (heL ρ S p 0).length = hdn ρ S p := by
  unfold heL hdn
  rw [List.length_map, Nat.sub_zero]
  have key : ∀ n, n ≤ cut ρ S p → ((List.range' 0 n).filter (fun b => decide (hd S p b = 1))).length = sm (hd S p) n := by
    intro n
    induction n with
    | zero => intro _; rfl
    | succ n ih =>
      intro hn
      rw [List.range'_1_concat, List.filter_append, List.length_append, ih (by omega), sm_s, Nat.zero_add]
      have h1 := (V.2.1 p hp n).1 (by omega)
      rcases (show hd S p n = 0 ∨ hd S p n = 1 by omega) with h | h
      · rw [List.filter_cons_of_neg (by simp [h]), h]; rfl
      · rw [List.filter_cons_of_pos (by simp [h]), h]; rfl
  exact key _ (Nat.le_refl _)
theorem heA_len (V : Inv ρ β S) (hP : rP ρ ≤ 16) : ∀ k p, p + k = rP ρ → sm (hdn ρ S) p + (heA ρ S p k).length = sm (hdn ρ S) (p + k)
  | 0, p, _ => rfl
  | k + 1, p, h => by
    have e := heA_len V hP k (p + 1) (by omega)
    rw [sm_s] at e
    show _ + (heL ρ S p 0 ++ heA ρ S (p + 1) k).length = _
    rw [List.length_append, heL_len V (by omega), show p + (k + 1) = p + 1 + k by omega]
    omega
theorem heA_HT (V : Inv ρ β S) (hP : rP ρ ≤ 16) : (heA ρ S 0 (rP ρ)).length = HT ρ S := by
  have := heA_len V hP (rP ρ) 0 (by omega)
  rw [Nat.zero_add] at this
  unfold HT
  have e : sm (hdn ρ S) 0 = 0 := rfl
  omega
theorem heA_mem {x : Nat} : ∀ k p, x ∈ heA ρ S p k → ∃ q b, x = 100 * q + b ∧ p ≤ q ∧ q < p + k ∧ b < cut ρ S q ∧ hd S q b = 1
  | 0, p, h => by cases h
  | k + 1, p, h => by
    have h : x ∈ heL ρ S p 0 ++ heA ρ S (p + 1) k := h
    rcases List.mem_append.1 h with h | h
    · unfold heL at h
      obtain ⟨b, hb, rfl⟩ := List.mem_map.1 h
      obtain ⟨h1, h2⟩ := List.mem_filter.1 hb
      rw [List.mem_range'_1] at h1
      exact ⟨p, b, rfl, Nat.le_refl _, by omega, by omega, of_decide_eq_true h2⟩
    · obtain ⟨q, b, e, h1, h2, h3, h4⟩ := heA_mem k (p + 1) h
      exact ⟨q, b, e, by omega, by omega, h3, h4⟩
theorem heA_at (V : Inv ρ β S) (hR : RuOK ρ) {n : Nat} (hn : n < HT ρ S) : ∃ q b, (heA ρ S 0 (rP ρ))[n]? = some (100 * q + b) ∧ (heA ρ S 0 (rP ρ)).getD n 0 = 100 * q + b ∧ q < rP ρ ∧ b < cut ρ S q ∧ b < 40 ∧ hd S q b = 1 := by
  have hb := ru_b hR
  have hl := heA_HT V (show rP ρ ≤ 16 by omega)
  have hn' : n < (heA ρ S 0 (rP ρ)).length := by omega
  obtain ⟨q, b, e, h1, h2, h3, h4⟩ := heA_mem _ _ (List.getElem_mem hn')
  have hc := cut_le hR V.1 (show q < 16 by omega)
  refine ⟨q, b, by rw [List.getElem?_eq_getElem hn', e], ?_, by omega, h3, by omega, h4⟩
  rw [List.getD_eq_getElem?_getD, List.getElem?_eq_getElem hn', e]
  rfl
theorem ok_tk (hR : RuOK ρ) (V : OKS ρ β S) (ht : t < rT ρ) (v : Int32) : OKS ρ (β + 1) (aTk ρ t v S) := by
  have hb := ru_b hR
  unfold aTk
  split
  · split
    · exact OKS_mono (Nat.le_succ β) V
    · next c hk =>
      have hc := kcF_lt hk
      split
      · exact OKS_mono (Nat.le_succ β) V
      · next p hp =>
        have pc := (pgF_cases hR V.1 ht hc hp).1
        have hbk := aBlk_lt hR V.1 ht hc hp
        exact ⟨inv_note (inv_get hR V.1 ht hc hp) ⟨by show 100 * p + aBlk ρ t c p S < 1600; omega, by show t < 4; omega, hwF_le⟩, bxs_B hR (bxs_tr (bxs_get hR (show p < 16 by omega)) (bxs_rfl rfl)) V.2⟩
  · exact OKS_mono (Nat.le_succ β) V
theorem ok_gv (hR : RuOK ρ) (V : OKS ρ β S) (ht : t < rT ρ) {q b : Nat} (hq : q < rP ρ) (hb : b < cut ρ S q) (hb4 : b < 40) (hh : hd S q b = 1) : OKS ρ (β + 1) (aGv ρ t (100 * q + b) S) := by
  have hRb := ru_b hR
  unfold aGv
  rw [show (100 * q + b) / 100 = q by omega, show (100 * q + b) % 100 = b by omega]
  split
  · exact OKS_mono (Nat.le_succ β) ⟨inv_free hR ht (show q < 16 by omega) V.2 hb hh V.1, box_free hR (by omega) (by omega) V.2⟩
  · exact OKS_mono (Nat.le_succ β) V
theorem ok_yr (hR : RuOK ρ) (V : OKS ρ β S) (s : Int64) : OKS ρ (β + 1) (aYr ρ s S).2 := by
  have hb := ru_b hR
  have ht := (dwY_ok (stY s) (k := rT ρ) (by omega) (by omega)).2
  have hbd : HT ρ S ≤ 640 := held_bd hR V.1
  unfold aYr
  split
  · split
    · exact OKS_mono (Nat.le_succ β) V
    · next h =>
      have hn := (dwY_ok (stY (stY (stY s))) (k := HT ρ S) (by omega) (by omega)).2
      obtain ⟨q, b, -, e, h1, h2, h3, h4⟩ := heA_at V.1 hR hn
      show OKS ρ (β + 1) (aGv ρ _ ((heA ρ S 0 (rP ρ)).getD _ 0) S)
      rw [e]
      exact ok_gv hR V ht h1 h2 h3 h4
  · exact ok_tk hR V ht _
theorem cTk (C : CC M 32 ρ β S) (V : OKS ρ β S) (hβ : β < 2000000000) (ht : t < rT ρ) (v : Int32) : ∃ r M', fH_takeBlock 32 (nI t) v M = some (r, M') ∧ Fr M M' 33 49 ∧ CC M' 32 ρ (β + 1) (aTk ρ t v S) := by
  have hb := ru_b C.2.2.1
  unfold aTk
  by_cases hl : lv S t = 1
  · rw [if_pos hl]
    cases hk : kcF ρ v with
    | none => exact ⟨mI, M, cTakeNo C V.1 (by omega) (Or.inl hk), Fr_refl _ _ _, CC_mono (Nat.le_succ β) C⟩
    | some c =>
      cases hp : pgF ρ t c S with
      | none =>
        refine ⟨mI, M, cTakeNo C V.1 (by omega) (Or.inr (Or.inr ⟨c, hk, hp⟩)), Fr_refl _ _ _, ?_⟩
        show CC M 32 ρ (β + 1) (match pgF ρ t c S with | none => S | some p => oNote (100 * p + aBlk ρ t c p S, t, hwF t p S) (aGet ρ t c p S))
        rw [hp]
        exact CC_mono (Nat.le_succ β) C
      | some p =>
        obtain ⟨M', e, F, C', -⟩ := cTakeYes C V.1 hβ ht hl hk hp
        refine ⟨_, M', e, F, ?_⟩
        show CC M' 32 ρ (β + 1) (match pgF ρ t c S with | none => S | some p => oNote (100 * p + aBlk ρ t c p S, t, hwF t p S) (aGet ρ t c p S))
        rw [hp]
        exact C'
  · rw [if_neg hl]
    exact ⟨mI, M, cTakeNo C V.1 (by omega) (Or.inr (Or.inl (fun h => hl h.2))), Fr_refl _ _ _, CC_mono (Nat.le_succ β) C⟩
theorem cGv (C : CC M 32 ρ β S) (V : OKS ρ β S) (ht : t < rT ρ) {q b : Nat} (hq : q < rP ρ) (hb : b < cut ρ S q) (hb4 : b < 40) (hh : hd S q b = 1) : ∃ r M', fH_giveBlock 32 (nI t) (nI (100 * q + b)) M = some (r, M') ∧ Fr M M' 33 49 ∧ CC M' 32 ρ β (aGv ρ t (100 * q + b) S) := by
  have hRb := ru_b C.2.2.1
  unfold aGv
  rw [show (100 * q + b) / 100 = q by omega, show (100 * q + b) % 100 = b by omega]
  by_cases hl : lv S t = 1
  · rw [if_pos hl]
    obtain ⟨M', e, F, C'⟩ := cGive C V.1 V.2 ht hl hq hb hh
    exact ⟨_, M', e, Fr_w F (by omega) (by omega), C'⟩
  · rw [if_neg hl]
    exact ⟨mI, M, cGiveNo C V.1 (by omega) (fun h => hl h.2), Fr_refl _ _ _, C⟩
theorem cYear (A : SHP M) (C : CC M 32 ρ β S) (V : OKS ρ β S) (hβ : β < 2000000000) {o m : Nat} {T : Nat → HSt} (P : PC M ρ β o m T) (ho : o < 40) (hm : m ≤ 40) (s : Int64) : ∃ M' o', fA_liveYear 1 s M = some ((aYr ρ s S).1, M') ∧ Fr M M' 33 771 ∧ o' < 40 ∧ CC M' 32 ρ (β + 1) (aYr ρ s S).2 ∧ PC M' ρ (β + 1) o' (pm m) (pushT m T S) := by
  have hR := C.2.2.1
  have hb := ru_b hR
  have Hh := C.1
  obtain ⟨M1, o', k1, F1, ho', P1⟩ := cKeep A C V.1 P ho hm
  have D1 : CC M1 32 ρ β S := CC_Fr C F1 (by omega) (by omega)
  have s1 := F1.1
  have R1 := D1.2.1
  have hbd : HT ρ S ≤ 640 := held_bd hR V.1
  have d1 := dwA (M := M1) (stY s) (k := rT ρ) (by omega) (by omega)
  have ht := (dwY_ok (stY s) (k := rT ρ) (by omega) (by omega)).2
  have d2 := dwA (M := M1) (stY (stY s)) (k := 3) (by omega) (by omega)
  have h3 := (dwY_ok (stY (stY s)) (k := 3) (by omega) (by omega)).2
  have a1 := stA (M := M1) s
  have a2 := stA (M := M1) (stY s)
  have a3 := stA (M := M1) (stY (stY s))
  unfold aYr
  generalize hx1 : stY s = x1 at a1 a2 a3 d1 d2 ht h3 ⊢
  generalize hx2 : stY x1 = x2 at a2 a3 d2 h3 ⊢
  generalize hx3 : stY x2 = x3 at a3 ⊢
  generalize ht1 : dnY x1 (rT ρ) = t at d1 ht ⊢
  generalize hw1 : dnY x2 3 = w at d2 h3 ⊢
  by_cases h2 : 2 ≤ w
  · rw [if_pos h2]
    have q1 := qHeldAll D1 V.1
    have q1 : fH_heldInAll 32 M1 = some (nI (HT ρ S), M1) := q1
    by_cases h0 : HT ρ S = 0
    · rw [if_pos h0]
      rw [h0] at q1
      refine ⟨M1, o', ?_, Fr_w F1 (by omega) (by omega), ho', CC_mono (Nat.le_succ β) D1, PC_mono (Nat.le_succ β) P1⟩
      simp (disch := omega) only [fA_liveYear, BA_liveYear_119, gd1n, bs1n, ↓reduceIte, d_nz, d_nn, or_true, true_or, or_false, false_or, decide_true, Sum.elim_inl, Sum.elim_inr, ↓l_m1, l_0, l_1, l_2, l_3, l_4, l_5, l_6, l_7, l_8, l_9, l_10, l_16, l_17, l_18, l_20, l_23, l_24, l_30, l_31, l_32, l_39, l_40, l_41, l_48, l_57, l_58, l_59, l_60, l_63, l_90, l_97, l_98, l_99, l_100, l_102, l_103, l_104, l_107, l_109, l_112, l_115, l_116, l_117, l_120, l_122, l_126, l_166, l_180, l_240, l_255, l_640, l_999, l_2656, l_3064, l_3704, l_3708, l_3712, l_3713, l_3893, l_155720, l_1000000, n_ltT, n_ltF, n_leT, n_leF, n_eqT, n_eqF, n_eqm, n_eqm', n_mltn, n_mlen, n_nltm, n_nlem, n_mltm, n_mlem, n_add, n_mul, n_sub, n_subm, n_cl, n_ofNat, n_div, n_mod, obM_2 s1, rdI_2 s1, wrI_2 s1, lnI_2 s1, grM_2 s1, tgM_2 s1, as_o1 A, as_g1_0 A, as_g1_1 A, as_g1_2 A, as_g1_3 A, as_g1_4 A, as_g1_6 A, as_g1_7 A, as_g1_8 A, as_g1_9 A, as_g1_11 A, as_g1_12 A, as_g1_13 A, as_g1_14 A, as_o2 A, as_g2_0 A, as_t3 A, as_r3 A, as_w3 A, as_l3 A, as_o4 A, as_g4_0 A, as_o5 A, as_g5_0 A, as_g5_1 A, as_t6 A, as_r6 A, as_w6 A, as_l6 A, as_t7 A, as_r7 A, as_w7 A, as_l7 A, as_o8 A, as_g8_0 A, as_g8_1 A, as_t9 A, as_r9 A, as_w9 A, as_l9 A, as_t10 A, as_r10 A, as_w10 A, as_l10 A, as_o28 A, as_g28_0 A, as_g28_1 A, as_g28_2 A, as_t29 A, as_r29 A, as_w29 A, as_l29 A, as_t30 A, as_r30 A, as_w30 A, as_l30 A, as_t31 A, as_r31 A, as_w31 A, as_l31 A, as_o50 A, as_g50_0 A, as_t790 A, as_r790 A, as_w790 A, as_l790 A, as_o791 A, as_g791_0 A, as_g791_1 A, as_g791_2 A, as_o999 A, as_g999_0 A, as_g999_1 A, as_g999_2 A, as_t1000 A, as_r1000 A, as_w1000 A, as_l1000 A, as_t1001 A, as_r1001 A, as_w1001 A, as_l1001 A, as_t1002 A, as_r1002 A, as_w1002 A, as_l1002 A, as_x11 A, as_x51 A, as_x792 A, as_x793 A, as_x794 A, as_t792 A, as_ln792 A, as_s11 A, as_so A, as_sg0 A, as_sg1 A, as_sg2 A, as_sr1 A, as_sr2 A, as_sr3 A, as_p51 A, hs_ob Hh, hs_g0 Hh, hs_g1 Hh, hs_g2 Hh, hs_g3 Hh, hs_g4 Hh, hs_g5 Hh, hs_g6 Hh, hs_g7 Hh, hs_g8 Hh, hs_t1 Hh, hs_r1 Hh, hs_w1 Hh, hs_l1 Hh, hs_t2 Hh, hs_r2 Hh, hs_w2 Hh, hs_l2 Hh, hs_t3 Hh, hs_r3 Hh, hs_w3 Hh, hs_l3 Hh, hs_t14 Hh, hs_r14 Hh, hs_w14 Hh, hs_l14 Hh, hs_t15 Hh, hs_r15 Hh, hs_w15 Hh, hs_l15 Hh, hs_ob4 Hh, hs_g4_0 Hh, hs_t5 Hh, hs_r5 Hh, hs_w5 Hh, hs_l5 Hh, hs_g4_1 Hh, hs_t6 Hh, hs_r6 Hh, hs_w6 Hh, hs_l6 Hh, hs_g4_2 Hh, hs_t7 Hh, hs_r7 Hh, hs_w7 Hh, hs_l7 Hh, hs_g4_3 Hh, hs_t8 Hh, hs_r8 Hh, hs_w8 Hh, hs_l8 Hh, hs_ob9 Hh, hs_g9_0 Hh, hs_t10 Hh, hs_r10 Hh, hs_w10 Hh, hs_l10 Hh, hs_g9_1 Hh, hs_t11 Hh, hs_r11 Hh, hs_w11 Hh, hs_l11 Hh, hs_g9_2 Hh, hs_t12 Hh, hs_r12 Hh, hs_w12 Hh, hs_l12 Hh, hs_g9_3 Hh, hs_t13 Hh, hs_r13 Hh, hs_w13 Hh, hs_l13 Hh, hs_ob16 Hh, hs_g16 Hh, hs_t17 Hh, hs_r17 Hh, hs_w17 Hh, hs_l17 Hh, hs_ob5 Hh, hs_g50 Hh, hs_g51 Hh, hs_tu6 Hh, hs_ru6 Hh, hs_wu6 Hh, hs_lu6 Hh, hs_tu7 Hh, hs_ru7 Hh, hs_wu7 Hh, hs_lu7 Hh, rc_T R1, rc_P R1, rc_U R1, rc_B R1, rc_H R1, rc_K R1, k1, a1, a2, d1, d2, q1]
    · rw [if_neg h0]
      have d3 := dwA (M := M1) (x3) (k := HT ρ S) (by omega) (by omega)
      have hn := (dwY_ok (x3) (k := HT ρ S) (by omega) (by omega)).2
      generalize hn1 : dnY x3 (HT ρ S) = n at d3 hn ⊢
      obtain ⟨q, b, e1, e2, i1, i2, i3, i4⟩ := heA_at V.1 hR hn
      have q2 := qHeldAt D1 V.1 (n := n) (by omega)
      rw [e1] at q2
      have q2 : fH_heldAt 32 (nI n) M1 = some (nI (100 * q + b), M1) := q2
      obtain ⟨r, M2, k2, F2, D2⟩ := cGv D1 V ht i1 i2 i3 i4
      have F12 : Fr M M2 33 771 := Fr_tr (Fr_w F1 (by omega) (by omega)) (Fr_w F2 (by omega) (by omega))
      have s2 := F12.1
      refine ⟨M2, o', ?_, F12, ho', by rw [e2]; exact CC_mono (Nat.le_succ β) D2, PC_mono (Nat.le_succ β) (PC_Fr P1 F2 (by omega) (by omega))⟩
      simp (disch := omega) only [fA_liveYear, BA_liveYear_119, gd1n, bs1n, ↓reduceIte, d_nz, d_nn, or_true, true_or, or_false, false_or, decide_true, Sum.elim_inl, Sum.elim_inr, ↓l_m1, l_0, l_1, l_2, l_3, l_4, l_5, l_6, l_7, l_8, l_9, l_10, l_16, l_17, l_18, l_20, l_23, l_24, l_30, l_31, l_32, l_39, l_40, l_41, l_48, l_57, l_58, l_59, l_60, l_63, l_90, l_97, l_98, l_99, l_100, l_102, l_103, l_104, l_107, l_109, l_112, l_115, l_116, l_117, l_120, l_122, l_126, l_166, l_180, l_240, l_255, l_640, l_999, l_2656, l_3064, l_3704, l_3708, l_3712, l_3713, l_3893, l_155720, l_1000000, n_ltT, n_ltF, n_leT, n_leF, n_eqT, n_eqF, n_eqm, n_eqm', n_mltn, n_mlen, n_nltm, n_nlem, n_mltm, n_mlem, n_add, n_mul, n_sub, n_subm, n_cl, n_ofNat, n_div, n_mod, obM_2 s1, rdI_2 s1, wrI_2 s1, lnI_2 s1, grM_2 s1, tgM_2 s1, obM_2 s2, rdI_2 s2, wrI_2 s2, lnI_2 s2, grM_2 s2, tgM_2 s2, as_o1 A, as_g1_0 A, as_g1_1 A, as_g1_2 A, as_g1_3 A, as_g1_4 A, as_g1_6 A, as_g1_7 A, as_g1_8 A, as_g1_9 A, as_g1_11 A, as_g1_12 A, as_g1_13 A, as_g1_14 A, as_o2 A, as_g2_0 A, as_t3 A, as_r3 A, as_w3 A, as_l3 A, as_o4 A, as_g4_0 A, as_o5 A, as_g5_0 A, as_g5_1 A, as_t6 A, as_r6 A, as_w6 A, as_l6 A, as_t7 A, as_r7 A, as_w7 A, as_l7 A, as_o8 A, as_g8_0 A, as_g8_1 A, as_t9 A, as_r9 A, as_w9 A, as_l9 A, as_t10 A, as_r10 A, as_w10 A, as_l10 A, as_o28 A, as_g28_0 A, as_g28_1 A, as_g28_2 A, as_t29 A, as_r29 A, as_w29 A, as_l29 A, as_t30 A, as_r30 A, as_w30 A, as_l30 A, as_t31 A, as_r31 A, as_w31 A, as_l31 A, as_o50 A, as_g50_0 A, as_t790 A, as_r790 A, as_w790 A, as_l790 A, as_o791 A, as_g791_0 A, as_g791_1 A, as_g791_2 A, as_o999 A, as_g999_0 A, as_g999_1 A, as_g999_2 A, as_t1000 A, as_r1000 A, as_w1000 A, as_l1000 A, as_t1001 A, as_r1001 A, as_w1001 A, as_l1001 A, as_t1002 A, as_r1002 A, as_w1002 A, as_l1002 A, as_x11 A, as_x51 A, as_x792 A, as_x793 A, as_x794 A, as_t792 A, as_ln792 A, as_s11 A, as_so A, as_sg0 A, as_sg1 A, as_sg2 A, as_sr1 A, as_sr2 A, as_sr3 A, as_p51 A, hs_ob Hh, hs_g0 Hh, hs_g1 Hh, hs_g2 Hh, hs_g3 Hh, hs_g4 Hh, hs_g5 Hh, hs_g6 Hh, hs_g7 Hh, hs_g8 Hh, hs_t1 Hh, hs_r1 Hh, hs_w1 Hh, hs_l1 Hh, hs_t2 Hh, hs_r2 Hh, hs_w2 Hh, hs_l2 Hh, hs_t3 Hh, hs_r3 Hh, hs_w3 Hh, hs_l3 Hh, hs_t14 Hh, hs_r14 Hh, hs_w14 Hh, hs_l14 Hh, hs_t15 Hh, hs_r15 Hh, hs_w15 Hh, hs_l15 Hh, hs_ob4 Hh, hs_g4_0 Hh, hs_t5 Hh, hs_r5 Hh, hs_w5 Hh, hs_l5 Hh, hs_g4_1 Hh, hs_t6 Hh, hs_r6 Hh, hs_w6 Hh, hs_l6 Hh, hs_g4_2 Hh, hs_t7 Hh, hs_r7 Hh, hs_w7 Hh, hs_l7 Hh, hs_g4_3 Hh, hs_t8 Hh, hs_r8 Hh, hs_w8 Hh, hs_l8 Hh, hs_ob9 Hh, hs_g9_0 Hh, hs_t10 Hh, hs_r10 Hh, hs_w10 Hh, hs_l10 Hh, hs_g9_1 Hh, hs_t11 Hh, hs_r11 Hh, hs_w11 Hh, hs_l11 Hh, hs_g9_2 Hh, hs_t12 Hh, hs_r12 Hh, hs_w12 Hh, hs_l12 Hh, hs_g9_3 Hh, hs_t13 Hh, hs_r13 Hh, hs_w13 Hh, hs_l13 Hh, hs_ob16 Hh, hs_g16 Hh, hs_t17 Hh, hs_r17 Hh, hs_w17 Hh, hs_l17 Hh, hs_ob5 Hh, hs_g50 Hh, hs_g51 Hh, hs_tu6 Hh, hs_ru6 Hh, hs_wu6 Hh, hs_lu6 Hh, hs_tu7 Hh, hs_ru7 Hh, hs_wu7 Hh, hs_lu7 Hh, rc_T R1, rc_P R1, rc_U R1, rc_B R1, rc_H R1, rc_K R1, k1, a1, a2, a3, d1, d2, d3, q1, q2, k2]
  · rw [if_neg h2]
    have d3 := dwA (M := M1) (x3) (k := rU ρ) (by omega) (by omega)
    have hn := (dwY_ok (x3) (k := rU ρ) (by omega) (by omega)).2
    generalize hn1 : dnY x3 (rU ρ) = n at d3 hn ⊢
    obtain ⟨r, M2, k2, F2, D2⟩ := cTk D1 V hβ ht (nI (n + 1))
    have F12 : Fr M M2 33 771 := Fr_tr (Fr_w F1 (by omega) (by omega)) (Fr_w F2 (by omega) (by omega))
    have s2 := F12.1
    refine ⟨M2, o', ?_, F12, ho', D2, PC_mono (Nat.le_succ β) (PC_Fr P1 F2 (by omega) (by omega))⟩
    simp (disch := omega) only [fA_liveYear, BA_liveYear_119, gd1n, bs1n, ↓reduceIte, d_nz, d_nn, or_true, true_or, or_false, false_or, decide_true, Sum.elim_inl, Sum.elim_inr, ↓l_m1, l_0, l_1, l_2, l_3, l_4, l_5, l_6, l_7, l_8, l_9, l_10, l_16, l_17, l_18, l_20, l_23, l_24, l_30, l_31, l_32, l_39, l_40, l_41, l_48, l_57, l_58, l_59, l_60, l_63, l_90, l_97, l_98, l_99, l_100, l_102, l_103, l_104, l_107, l_109, l_112, l_115, l_116, l_117, l_120, l_122, l_126, l_166, l_180, l_240, l_255, l_640, l_999, l_2656, l_3064, l_3704, l_3708, l_3712, l_3713, l_3893, l_155720, l_1000000, n_ltT, n_ltF, n_leT, n_leF, n_eqT, n_eqF, n_eqm, n_eqm', n_mltn, n_mlen, n_nltm, n_nlem, n_mltm, n_mlem, n_add, n_mul, n_sub, n_subm, n_cl, n_ofNat, n_div, n_mod, obM_2 s1, rdI_2 s1, wrI_2 s1, lnI_2 s1, grM_2 s1, tgM_2 s1, obM_2 s2, rdI_2 s2, wrI_2 s2, lnI_2 s2, grM_2 s2, tgM_2 s2, as_o1 A, as_g1_0 A, as_g1_1 A, as_g1_2 A, as_g1_3 A, as_g1_4 A, as_g1_6 A, as_g1_7 A, as_g1_8 A, as_g1_9 A, as_g1_11 A, as_g1_12 A, as_g1_13 A, as_g1_14 A, as_o2 A, as_g2_0 A, as_t3 A, as_r3 A, as_w3 A, as_l3 A, as_o4 A, as_g4_0 A, as_o5 A, as_g5_0 A, as_g5_1 A, as_t6 A, as_r6 A, as_w6 A, as_l6 A, as_t7 A, as_r7 A, as_w7 A, as_l7 A, as_o8 A, as_g8_0 A, as_g8_1 A, as_t9 A, as_r9 A, as_w9 A, as_l9 A, as_t10 A, as_r10 A, as_w10 A, as_l10 A, as_o28 A, as_g28_0 A, as_g28_1 A, as_g28_2 A, as_t29 A, as_r29 A, as_w29 A, as_l29 A, as_t30 A, as_r30 A, as_w30 A, as_l30 A, as_t31 A, as_r31 A, as_w31 A, as_l31 A, as_o50 A, as_g50_0 A, as_t790 A, as_r790 A, as_w790 A, as_l790 A, as_o791 A, as_g791_0 A, as_g791_1 A, as_g791_2 A, as_o999 A, as_g999_0 A, as_g999_1 A, as_g999_2 A, as_t1000 A, as_r1000 A, as_w1000 A, as_l1000 A, as_t1001 A, as_r1001 A, as_w1001 A, as_l1001 A, as_t1002 A, as_r1002 A, as_w1002 A, as_l1002 A, as_x11 A, as_x51 A, as_x792 A, as_x793 A, as_x794 A, as_t792 A, as_ln792 A, as_s11 A, as_so A, as_sg0 A, as_sg1 A, as_sg2 A, as_sr1 A, as_sr2 A, as_sr3 A, as_p51 A, hs_ob Hh, hs_g0 Hh, hs_g1 Hh, hs_g2 Hh, hs_g3 Hh, hs_g4 Hh, hs_g5 Hh, hs_g6 Hh, hs_g7 Hh, hs_g8 Hh, hs_t1 Hh, hs_r1 Hh, hs_w1 Hh, hs_l1 Hh, hs_t2 Hh, hs_r2 Hh, hs_w2 Hh, hs_l2 Hh, hs_t3 Hh, hs_r3 Hh, hs_w3 Hh, hs_l3 Hh, hs_t14 Hh, hs_r14 Hh, hs_w14 Hh, hs_l14 Hh, hs_t15 Hh, hs_r15 Hh, hs_w15 Hh, hs_l15 Hh, hs_ob4 Hh, hs_g4_0 Hh, hs_t5 Hh, hs_r5 Hh, hs_w5 Hh, hs_l5 Hh, hs_g4_1 Hh, hs_t6 Hh, hs_r6 Hh, hs_w6 Hh, hs_l6 Hh, hs_g4_2 Hh, hs_t7 Hh, hs_r7 Hh, hs_w7 Hh, hs_l7 Hh, hs_g4_3 Hh, hs_t8 Hh, hs_r8 Hh, hs_w8 Hh, hs_l8 Hh, hs_ob9 Hh, hs_g9_0 Hh, hs_t10 Hh, hs_r10 Hh, hs_w10 Hh, hs_l10 Hh, hs_g9_1 Hh, hs_t11 Hh, hs_r11 Hh, hs_w11 Hh, hs_l11 Hh, hs_g9_2 Hh, hs_t12 Hh, hs_r12 Hh, hs_w12 Hh, hs_l12 Hh, hs_g9_3 Hh, hs_t13 Hh, hs_r13 Hh, hs_w13 Hh, hs_l13 Hh, hs_ob16 Hh, hs_g16 Hh, hs_t17 Hh, hs_r17 Hh, hs_w17 Hh, hs_l17 Hh, hs_ob5 Hh, hs_g50 Hh, hs_g51 Hh, hs_tu6 Hh, hs_ru6 Hh, hs_wu6 Hh, hs_lu6 Hh, hs_tu7 Hh, hs_ru7 Hh, hs_wu7 Hh, hs_lu7 Hh, rc_T R1, rc_P R1, rc_U R1, rc_B R1, rc_H R1, rc_K R1, k1, a1, a2, a3, d1, d2, d3, k2]
end YA
