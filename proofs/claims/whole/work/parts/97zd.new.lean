/-! AN ARENA BEGINS: the class -/
section NW
variable {M M1 M2 : Mem} {β : Nat} {ρ : Rul}
theorem wrL {R : Type} {L : Nat → Nat → Mem → Option R} {dst off n f : Nat} {val : Nat → Int32} (hs : ∀ f k M', M'.2 = M.2 → (∀ a, a ≠ dst → giM M' a = giM M a) → k < n → L (f + 1) k M' = L f (k + 1) (siM M' dst (off + k) (val k))) (hf : n < f) : ∃ M', L f 0 M = L (f - n) n M' ∧ M'.2 = M.2 ∧ (∀ a, a ≠ dst → giM M' a = giM M a) ∧ (∀ k, k < n → giM M' dst (off + k) = val k) ∧ ∀ i, i < off ∨ off + n ≤ i → giM M' dst i = giM M dst i := by
  have key : ∀ k, k ≤ n → ∃ M', L f 0 M = L (f - k) k M' ∧ M'.2 = M.2 ∧ (∀ a, a ≠ dst → giM M' a = giM M a) ∧ (∀ j, j < k → giM M' dst (off + j) = val j) ∧ ∀ i, i < off ∨ off + k ≤ i → giM M' dst i = giM M dst i := by
    intro k
    induction k with
    | zero => intro _; exact ⟨M, rfl, rfl, fun _ _ => rfl, fun j hj => by omega, fun _ _ => rfl⟩
    | succ k ih =>
      intro hk
      obtain ⟨M', e, s, g, v, u⟩ := ih (by omega)
      refine ⟨siM M' dst (off + k) (val k), ?_, s, fun a ha => by rw [giM_un ha]; exact g a ha, fun j hj => ?_, fun i hi => ?_⟩
      · rw [e, show f - k = (f - (k + 1)) + 1 by omega, hs _ k M' s g (by omega)]
      · rw [giM_ud, ud_at]
        by_cases e : j = k
        · rw [if_pos (by omega), e]
        · rw [if_neg (by omega)]; exact v j (by omega)
      · rw [giM_ud, ud_n _ _ (by omega)]
        exact u i (by omega)
  exact key n (Nat.le_refl _)
theorem arS_s {M' : Mem} {a n : Nat} (e : M'.2 = M.2) (h : arS M a n) : arS M' a n := arS_2 e h
theorem filA_ok {a n : Nat} (hA : arS M a n) (hn : n < 10000) (v : Int32) : ∃ M', fY_fill a v M = some M' ∧ Fr M M' a a ∧ ∀ k, k < n → giM M' a k = v := by
  obtain ⟨M', e, s, g, w, -⟩ := wrL (M := M) (L := fun f k M => LY_fill_5 f a v (nI k) (nI n) M) (dst := a) (off := 0) (n := n) (f := 1000000) (val := fun _ => v) (fun f k M' s hg hk => by
    show BY_fill_5 (LY_fill_5 f) a v (nI k) (nI n) M' = LY_fill_5 f a v (nI (k + 1)) (nI n) (siM M' a (0 + k) v)
    unfold BY_fill_5
    rw [if_neg (of_eq_false (n_leF (by omega) (by omega))), ar_wr (arS_s s hA) hk, gd1n, n_cl (by omega), l_1, n_add, Nat.zero_add]) (by omega)
  refine ⟨M', ?_, ⟨s, fun x hx => g x (by omega)⟩, fun k hk => by have := w k hk; rw [Nat.zero_add] at this; exact this⟩
  have e : LY_fill_5 1000000 a v (nI 0) (nI n) M = LY_fill_5 (1000000 - n) a v (nI n) (nI n) M' := e
  have e2 : LY_fill_5 (1000000 - n) a v (nI n) (nI n) M' = some M' := by
    rw [show 1000000 - n = (999999 - n) + 1 by omega]
    show BY_fill_5 (LY_fill_5 (999999 - n)) a v (nI n) (nI n) M' = _
    unfold BY_fill_5
    rw [if_pos (of_eq_true (n_leT (by omega) (by omega)))]
  unfold fY_fill
  have e : LY_fill_5 1000000 a v 0 (Int32.ofNat n) M = some M' := e.trans e2
  rw [ar_ln hA, gd1n, ar_tg hA, e, bs1n]
theorem clr_ok {c n1 n2 : Nat} (S : ChS M c n1 n2) (h1 : n1 < 10000) (h2 : n2 < 10000) : ∃ M', fC_clearAll c M = some M' ∧ Fr M M' (c + 1) (c + 4) ∧ (∀ k, k < n1 → giM M' (c + 1) k = mI ∧ giM M' (c + 2) k = nI 0) ∧ ∀ k, k < n2 → giM M' (c + 3) k = mI ∧ giM M' (c + 4) k = mI := by
  have hb := S.1
  obtain ⟨M1, k1, F1, v1⟩ := filA_ok S.2.2.2.1 h1 mI
  obtain ⟨M2, k2, F2, v2⟩ := filA_ok (arS_s F1.1 S.2.2.2.2.1) h1 (nI 0)
  have s2 : M2.2 = M.2 := F2.1.trans F1.1
  obtain ⟨M3, k3, F3, v3⟩ := filA_ok (arS_s s2 S.2.2.2.2.2.1) h2 mI
  have s3 : M3.2 = M.2 := F3.1.trans s2
  obtain ⟨M4, k4, F4', v4⟩ := filA_ok (arS_s s3 S.2.2.2.2.2.2) h2 mI
  have s1 := F1.1
  refine ⟨M4, ?_, ?_, fun k hk => ⟨?_, ?_⟩, fun k hk => ⟨?_, ?_⟩⟩
  · simp (disch := omega) only [fC_clearAll, gd1n, bs1n, ↓reduceIte, d_nz, d_nn, or_true, true_or, or_false, false_or, decide_true, Sum.elim_inl, Sum.elim_inr, ↓l_m1, l_0, l_1, l_2, l_3, l_4, l_5, l_6, l_7, l_8, l_9, l_10, l_16, l_17, l_18, l_20, l_23, l_24, l_30, l_31, l_32, l_39, l_40, l_41, l_48, l_57, l_58, l_59, l_60, l_63, l_90, l_97, l_98, l_99, l_100, l_102, l_103, l_104, l_107, l_109, l_112, l_115, l_116, l_117, l_120, l_122, l_126, l_166, l_180, l_240, l_255, l_640, l_999, l_2656, l_3064, l_3704, l_3708, l_3712, l_3713, l_3893, l_155720, l_1000000, n_ltT, n_ltF, n_leT, n_leF, n_eqT, n_eqF, n_eqm, n_eqm', n_mltn, n_mlen, n_nltm, n_nlem, n_mltm, n_mlem, n_add, n_mul, n_sub, n_subm, n_cl, n_ofNat, n_div, n_mod, obM_si, rdI_si, wrI_si, lnI_si, grM_si', tgM_si', obM_sa, rdI_sa, wrI_sa, lnI_sa, grM_sa', tgM_sa', obM_2 s1, rdI_2 s1, wrI_2 s1, lnI_2 s1, grM_2 s1, tgM_2 s1, obM_2 s2, rdI_2 s2, wrI_2 s2, lnI_2 s2, grM_2 s2, tgM_2 s2, obM_2 s3, rdI_2 s3, wrI_2 s3, lnI_2 s3, grM_2 s3, tgM_2 s3, cs_ob S, cs_g0 S, cs_g1 S, cs_g2 S, cs_g3 S, cs_t1 S, cs_t2 S, cs_t3 S, cs_t4 S, cs_r1 S, cs_r2 S, cs_r3 S, cs_r4 S, cs_w1 S, cs_w2 S, cs_w3 S, cs_w4 S, cs_l1 S, cs_l2 S, cs_l3 S, cs_l4 S, k1, k2, k3, k4]
  · exact Fr_tr (Fr_w F1 (by omega) (by omega)) (Fr_tr (Fr_w F2 (by omega) (by omega)) (Fr_tr (Fr_w F3 (by omega) (by omega)) (Fr_w F4' (by omega) (by omega))))
  · rw [F4'.2 _ (by omega), F3.2 _ (by omega), F2.2 _ (by omega)]; exact v1 k hk
  · rw [F4'.2 _ (by omega), F3.2 _ (by omega)]; exact v2 k hk
  · rw [F4'.2 _ (by omega)]; exact v3 k hk
  · exact v4 k hk
/-- a new arena -/
def nwS (ρ : Rul) : HSt := (fun _ => 0, fun _ => 0, fun _ => 0, fun _ _ => 0, fun _ => [], fun _ => [], fun t => if t < rT ρ then 1 else 0, fun _ => 0, [])
theorem nw_ok (A : SHP M) : ∃ M', fH_makeNew 32 M = some M' ∧ Fr M M' 33 49 ∧ (∀ k, k < 16 → giM M' 33 k = mI ∧ giM M' 34 k = mI ∧ giM M' 35 k = nI 0 ∧ giM M' 39 k = mI ∧ giM M' 40 k = mI) ∧ (∀ k, k < 24 → giM M' 37 k = mI ∧ giM M' 38 k = nI 0) ∧ (∀ k, k < 112 → giM M' 42 k = mI ∧ giM M' 43 k = nI 0) ∧ (∀ k, k < 640 → giM M' 44 k = mI ∧ giM M' 45 k = mI) ∧ (∀ k, k < 4 → giM M' 46 k = nI 1 ∧ giM M' 47 k = nI 0) ∧ giM M' 48 1 = nI 0 := by
  have H := HS_of A hp_32
  obtain ⟨M1, k1, F1, v1⟩ := filA_ok (hs_a1 H) (by omega) mI
  have s1 : M1.2 = M.2 := F1.1
  obtain ⟨M2, k2, F2, v2⟩ := filA_ok (arS_s s1 (hs_a2 H)) (by omega) mI
  have s2 : M2.2 = M.2 := F2.1.trans s1
  obtain ⟨M3, k3, F3, v3⟩ := filA_ok (arS_s s2 (hs_a3 H)) (by omega) (nI 0)
  have s3 : M3.2 = M.2 := F3.1.trans s2
  obtain ⟨M4, k4, F4', v4, w4⟩ := clr_ok (hs_q (HS_2 s3 H)) (by omega) (by omega)
  have s4 : M4.2 = M.2 := F4'.1.trans s3
  obtain ⟨M5, k5, F5, v5, w5⟩ := clr_ok (hs_k (HS_2 s4 H)) (by omega) (by omega)
  have s5 : M5.2 = M.2 := F5.1.trans s4
  obtain ⟨M6, k6, F6, v6⟩ := filA_ok (arS_s s5 (hs_a14 H)) (by omega) (nI 1)
  have s6 : M6.2 = M.2 := F6.1.trans s5
  obtain ⟨M7, k7, F7, v7⟩ := filA_ok (arS_s s6 (hs_a15 H)) (by omega) (nI 0)
  have s7 : M7.2 = M.2 := F7.1.trans s6
  refine ⟨siM M7 48 1 (nI 0), ?_, ⟨s7, fun a ha => ?_⟩, fun k hk => ⟨?_, ?_, ?_, ?_, ?_⟩, fun k hk => ⟨?_, ?_⟩, fun k hk => ⟨?_, ?_⟩, fun k hk => ⟨?_, ?_⟩, fun k hk => ⟨?_, ?_⟩, ?_⟩
  · simp (disch := omega) only [fH_makeNew, gd1n, bs1n, ↓reduceIte, d_nz, d_nn, or_true, true_or, or_false, false_or, decide_true, Sum.elim_inl, Sum.elim_inr, ↓l_m1, l_0, l_1, l_2, l_3, l_4, l_5, l_6, l_7, l_8, l_9, l_10, l_16, l_17, l_18, l_20, l_23, l_24, l_30, l_31, l_32, l_39, l_40, l_41, l_48, l_57, l_58, l_59, l_60, l_63, l_90, l_97, l_98, l_99, l_100, l_102, l_103, l_104, l_107, l_109, l_112, l_115, l_116, l_117, l_120, l_122, l_126, l_166, l_180, l_240, l_255, l_640, l_999, l_2656, l_3064, l_3704, l_3708, l_3712, l_3713, l_3893, l_155720, l_1000000, n_ltT, n_ltF, n_leT, n_leF, n_eqT, n_eqF, n_eqm, n_eqm', n_mltn, n_mlen, n_nltm, n_nlem, n_mltm, n_mlem, n_add, n_mul, n_sub, n_subm, n_cl, n_ofNat, n_div, n_mod, obM_si, rdI_si, wrI_si, lnI_si, grM_si', tgM_si', obM_sa, rdI_sa, wrI_sa, lnI_sa, grM_sa', tgM_sa', obM_2 s1, rdI_2 s1, wrI_2 s1, lnI_2 s1, grM_2 s1, tgM_2 s1, obM_2 s2, rdI_2 s2, wrI_2 s2, lnI_2 s2, grM_2 s2, tgM_2 s2, obM_2 s3, rdI_2 s3, wrI_2 s3, lnI_2 s3, grM_2 s3, tgM_2 s3, obM_2 s4, rdI_2 s4, wrI_2 s4, lnI_2 s4, grM_2 s4, tgM_2 s4, obM_2 s5, rdI_2 s5, wrI_2 s5, lnI_2 s5, grM_2 s5, tgM_2 s5, obM_2 s6, rdI_2 s6, wrI_2 s6, lnI_2 s6, grM_2 s6, tgM_2 s6, obM_2 s7, rdI_2 s7, wrI_2 s7, lnI_2 s7, grM_2 s7, tgM_2 s7, hs_ob H, hs_g0 H, hs_g1 H, hs_g2 H, hs_g3 H, hs_g4 H, hs_g5 H, hs_g6 H, hs_g7 H, hs_g8 H, hs_t1 H, hs_r1 H, hs_w1 H, hs_l1 H, hs_t2 H, hs_r2 H, hs_w2 H, hs_l2 H, hs_t3 H, hs_r3 H, hs_w3 H, hs_l3 H, hs_t14 H, hs_r14 H, hs_w14 H, hs_l14 H, hs_t15 H, hs_r15 H, hs_w15 H, hs_l15 H, hs_ob4 H, hs_g4_0 H, hs_t5 H, hs_r5 H, hs_w5 H, hs_l5 H, hs_g4_1 H, hs_t6 H, hs_r6 H, hs_w6 H, hs_l6 H, hs_g4_2 H, hs_t7 H, hs_r7 H, hs_w7 H, hs_l7 H, hs_g4_3 H, hs_t8 H, hs_r8 H, hs_w8 H, hs_l8 H, hs_ob9 H, hs_g9_0 H, hs_t10 H, hs_r10 H, hs_w10 H, hs_l10 H, hs_g9_1 H, hs_t11 H, hs_r11 H, hs_w11 H, hs_l11 H, hs_g9_2 H, hs_t12 H, hs_r12 H, hs_w12 H, hs_l12 H, hs_g9_3 H, hs_t13 H, hs_r13 H, hs_w13 H, hs_l13 H, hs_ob16 H, hs_g16 H, hs_t17 H, hs_r17 H, hs_w17 H, hs_l17 H, hs_ob5 H, hs_g50 H, hs_g51 H, hs_tu6 H, hs_ru6 H, hs_wu6 H, hs_lu6 H, hs_tu7 H, hs_ru7 H, hs_wu7 H, hs_lu7 H, k1, k2, k3, k4, k5, k6, k7]
  · rw [giM_un (by omega), F7.2 a (by omega), F6.2 a (by omega), F5.2 a (by omega), F4'.2 a (by omega), F3.2 a (by omega), F2.2 a (by omega), F1.2 a (by omega)]
  · rw [giM_un (by omega), F7.2 33 (by omega), F6.2 33 (by omega), F5.2 33 (by omega), F4'.2 33 (by omega), F3.2 33 (by omega), F2.2 33 (by omega)]; exact v1 k hk
  · rw [giM_un (by omega), F7.2 34 (by omega), F6.2 34 (by omega), F5.2 34 (by omega), F4'.2 34 (by omega), F3.2 34 (by omega)]; exact v2 k hk
  · rw [giM_un (by omega), F7.2 35 (by omega), F6.2 35 (by omega), F5.2 35 (by omega), F4'.2 35 (by omega)]; exact v3 k hk
  · rw [giM_un (by omega), F7.2 39 (by omega), F6.2 39 (by omega), F5.2 39 (by omega)]; exact (w4 k hk).1
  · rw [giM_un (by omega), F7.2 40 (by omega), F6.2 40 (by omega), F5.2 40 (by omega)]; exact (w4 k hk).2
  · rw [giM_un (by omega), F7.2 37 (by omega), F6.2 37 (by omega), F5.2 37 (by omega)]; exact (v4 k hk).1
  · rw [giM_un (by omega), F7.2 38 (by omega), F6.2 38 (by omega), F5.2 38 (by omega)]; exact (v4 k hk).2
  · rw [giM_un (by omega), F7.2 42 (by omega), F6.2 42 (by omega)]; exact (v5 k hk).1
  · rw [giM_un (by omega), F7.2 43 (by omega), F6.2 43 (by omega)]; exact (v5 k hk).2
  · rw [giM_un (by omega), F7.2 44 (by omega), F6.2 44 (by omega)]; exact (w5 k hk).1
  · rw [giM_un (by omega), F7.2 45 (by omega), F6.2 45 (by omega)]; exact (w5 k hk).2
  · rw [giM_un (by omega), F7.2 46 (by omega)]; exact v6 k hk
  · rw [giM_un (by omega)]; exact v7 k hk
  · rw [giM_ud, ud_s]
theorem nw_CC (A : SHP M) (R : RuC M ρ) (hR : RuOK ρ) (a1 : ∀ k, k < 16 → giM M 33 k = mI ∧ giM M 34 k = mI ∧ giM M 35 k = nI 0 ∧ giM M 39 k = mI ∧ giM M 40 k = mI) (a2 : ∀ k, k < 24 → giM M 37 k = mI ∧ giM M 38 k = nI 0) (a3 : ∀ k, k < 112 → giM M 42 k = mI ∧ giM M 43 k = nI 0) (a4 : ∀ k, k < 4 → giM M 46 k = nI 1 ∧ giM M 47 k = nI 0) (a5 : giM M 48 1 = nI 0) : CC M 32 ρ β (nwS ρ) := by
  refine ⟨HS_of A hp_32, R, hR, fun p hp => ⟨(a1 p hp).1, (a1 p hp).2.1, (a1 p hp).2.2.1, fun _ => (a1 p hp).2.2.2.2⟩, fun l hl => ⟨(a2 l hl).1, (a2 l hl).2, List.nodup_nil, fun t ht => by cases ht⟩, fun l hl => ⟨(a3 l hl).1, (a3 l hl).2, List.nodup_nil, fun t ht => by cases ht⟩, fun p b hp hb h1 => ?_, fun t ht => ⟨fun h => ?_, (a4 t ht).2⟩, 0, by omega, a5, rfl, fun i hi => ?_⟩
  · have hb : b < 0 := hb
    omega
  · rw [(a4 t ht).1]
    exact congrArg nI (if_pos h).symm
  · have hi : i < 0 := hi
    omega
theorem nw_OKS (hR : RuOK ρ) : OKS ρ β (nwS ρ) := by
  refine ⟨⟨fun p hp => ⟨by show 0 ≤ 3; omega, fun h => absurd rfl h, fun h => ?_, fun h => ?_⟩, fun p hp b => ⟨fun h => ?_, fun _ => rfl⟩, fun q hq => ⟨List.nodup_nil, fun p => ⟨fun h => (by cases h), fun h => ?_⟩⟩, fun t p ht hp => ⟨by show 0 ≤ 9; omega, fun _ => rfl⟩, fun t ht => ⟨?_, by show 0 ≤ β; omega⟩, by show 0 ≤ 60; omega, fun e he => by cases he⟩, fun t p ht hp => ?_⟩
  · have h : (0 : Nat) = 1 ∨ (0 : Nat) = 2 := h
    omega
  · have h : (0 : Nat) = 2 := h
    omega
  · have h : b < 0 := h
    omega
  · have h : (0 : Nat) = 1 := h.2.1
    omega
  · show (if t < rT ρ then 1 else 0) ≤ 1
    split <;> omega
  · show 0 < rB ρ
    have := hR.1.2.2.2.1
    omega
theorem nw_RW {N : Nat → Int32} (h0 : ∀ i, i < 3893 → (i < 3704 ∨ 3708 ≤ i) → N i = nI 0) (h1 : ∀ t, t < 4 → N (3704 + t) = nI (if t < rT ρ then 1 else 0)) : RW N (nwS ρ) := by
  refine ⟨fun p hp => ⟨h0 _ (by omega) (by omega), h0 _ (by omega) (by omega), h0 _ (by omega) (by omega), fun b hb => h0 _ (by omega) (by omega)⟩, fun l hl => ⟨?_, fun i hi => ?_⟩, fun q hq => ⟨?_, fun i hi => ?_⟩, fun t ht => ⟨h1 t ht, h0 _ (by omega) (by omega)⟩, h0 _ (by omega) (by omega), fun i hi => ?_⟩
  · have : la l < 3704 := by
      unfold la
      split <;> omega
    exact h0 _ (by omega) (by omega)
  · have hi : i < 0 := hi
    omega
  · have : qa q < 3704 := by
      unfold qa
      omega
    exact h0 _ (by omega) (by omega)
  · have hi : i < 0 := hi
    omega
  · have hi : i < 0 := hi
    omega
end NW
