/-! A TEXT IS TAKEN: what a script is, as a pure fact; copies of the class -/
def zz (g : Nat → StT) : Nat → Nat
  | 0 => 0
  | i + 1 => scp (g i).1 (zz g i)
theorem zz_ud {g : Nat → StT} {i : Nat} {t : StT} : ∀ j, j ≤ i → zz (ud g i t) j = zz g j := by
  intro j
  induction j with
  | zero => intro _; rfl
  | succ j ih =>
    intro hj
    show scp (ud g i t j).1 (zz (ud g i t) j) = scp (g j).1 (zz g j)
    rw [ih (by omega), ud_n _ _ (by omega)]
section TX
variable {M M1 M2 : Mem} {β : Nat} {l : List Nat}
theorem sc_rg (lk : LOK l) : ∀ n i a s (g gg : Nat → StT) st, scL l n i a s g = .inl (st, gg) → i + n ≤ 24 → zz g i = s → s ≤ 6 → (∀ j, j < i → TOK (g j) ∧ zz g j ≤ 6 ∧ ((g j).1 = 6 → 0 < zz g j)) → i < st ∧ st ≤ 24 ∧ ∀ j, j < st → TOK (gg j) ∧ zz gg j ≤ 6 ∧ ((gg j).1 = 6 → 0 < zz gg j) := by
  intro n
  induction n with
  | zero => intro i a s g gg st h; cases h
  | succ n ih =>
    intro i a s g gg st h hn hz hs hj
    rw [scL_s] at h
    split at h
    · cases h
    · next p t hx =>
      obtain ⟨tk, t5, t6⟩ := spR_rg lk hx
      have nx : ∀ j, j < i + 1 → TOK (ud g i t j) ∧ zz (ud g i t) j ≤ 6 ∧ ((ud g i t j).1 = 6 → 0 < zz (ud g i t) j) := fun j h1 => by
        rw [zz_ud j (by omega), ud_at]
        by_cases e : j = i
        · rw [if_pos e, e, hz]
          exact ⟨tk, hs, t6⟩
        · rw [if_neg e]
          exact hj j (by omega)
      split at h
      · split at h
        · have e := Sum.inl.inj h
          obtain rfl := congrArg Prod.fst e
          obtain rfl := congrArg Prod.snd e
          exact ⟨by show i < i + 1; omega, by show i + 1 ≤ 24; omega, nx⟩
        · cases h
      · split at h
        · obtain ⟨q1, q2, q3⟩ := ih (i + 1) _ _ (ud g i t) gg st h (by omega) (by
            show scp (ud g i t i).1 (zz (ud g i t) i) = scp t.1 s
            rw [zz_ud i (by omega), ud_s, hz]) (scp_le t5 hs) nx
          exact ⟨by omega, q2, q3⟩
        · cases h
theorem sc_SC1 {D B N : Nat → Int32} {g : Nat → StT} {st : Nat} (h1 : 0 < st) (h2 : st ≤ 24) (h3 : ∀ j, j < st → TOK (g j) ∧ zz g j ≤ 6 ∧ ((g j).1 = 6 → 0 < zz g j)) (hD : ∀ j, j < st → D j = nI (g j).1 ∧ B j = dB (g j) ∧ N j = dN (g j)) : SC1 D B N st := by
  refine ⟨h1, h2, fun i hi => ?_, zz g, rfl, fun i hi => ⟨(h3 i hi).2.1, fun e => ?_, fun e => ?_, fun e5 e6 => ?_⟩⟩
  · obtain ⟨⟨k1, k2, k3, k4, k5⟩, -⟩ := h3 i hi
    exact ⟨(g i).1, (g i).2.1, (g i).2.2, k1, (hD i hi).1, k2, (hD i hi).2.1, k3, k4, k5, (hD i hi).2.2⟩
  · have k := (h3 i hi).1.1
    rw [(hD i hi).1] at e
    have e := n_inj (by omega) (by omega) e
    show scp (g i).1 (zz g i) = _
    unfold scp
    rw [if_pos e]
  · have k := (h3 i hi).1.1
    rw [(hD i hi).1] at e
    have e := n_inj (by omega) (by omega) e
    have := (h3 i hi).2.2 e
    show zz g i = scp (g i).1 (zz g i) + 1
    unfold scp
    rw [if_neg (by omega), if_pos e]
    omega
  · rw [(hD i hi).1] at e5 e6
    show scp (g i).1 (zz g i) = _
    unfold scp
    rw [if_neg (fun e => e5 (by rw [e])), if_neg (fun e => e6 (by rw [e]))]
theorem cu_ok {f z : Nat → Nat} {k : Nat} (A : SHP M) (g : RG M f k z) : ∃ M', fU_copyFrom 5 8 M = some M' ∧ Fr M M' 5 7 ∧ RuC M' (arR f k z) := by
  obtain ⟨gk, g8, gf, gz⟩ := g
  have c1 := cp_ok (as_a9 A) (as_a6 A) (Nat.le_refl 5)
  have c2 := cp_ok (as_a10 A) (as_a7 A) (Nat.le_refl 6)
  have gf' : ∀ j, j < 5 → giM M 9 j = nI (f j) := fun j hj => by
    have := gf j hj
    rw [Nat.zero_add] at this
    exact this
  refine ⟨siM (saM (saM M 6 (cpN (giM M 9) (giM M 6) 5)) 7 (cpN (giM M 10) (giM M 7) 6)) 5 2 (nI k), ?_, ⟨rfl, fun a ha => ?_⟩, ?_, ?_, ?_, ?_, ?_, ?_, fun j hj => ?_⟩
  · simp (disch := omega) only [fU_copyFrom, gd1n, bs1n, ↓reduceIte, d_nz, d_nn, or_true, true_or, or_false, false_or, decide_true, Sum.elim_inl, Sum.elim_inr, ↓l_m1, l_0, l_1, l_2, l_3, l_4, l_5, l_6, l_7, l_8, l_9, l_10, l_16, l_17, l_18, l_20, l_23, l_24, l_30, l_31, l_32, l_39, l_40, l_41, l_48, l_57, l_58, l_59, l_60, l_63, l_90, l_97, l_98, l_99, l_100, l_102, l_103, l_104, l_107, l_109, l_112, l_115, l_116, l_117, l_120, l_122, l_126, l_166, l_180, l_240, l_255, l_640, l_999, l_2656, l_3064, l_3704, l_3708, l_3712, l_3713, l_3893, l_155720, l_1000000, n_ltT, n_ltF, n_leT, n_leF, n_eqT, n_eqF, n_eqm, n_eqm', n_mltn, n_mlen, n_nltm, n_nlem, n_mltm, n_mlem, n_add, n_mul, n_sub, n_subm, n_cl, n_ofNat, n_div, n_mod, obM_si, rdI_si, wrI_si, lnI_si, grM_si', tgM_si', obM_sa, rdI_sa, wrI_sa, lnI_sa, grM_sa', tgM_sa', as_o1 A, as_g1_0 A, as_g1_1 A, as_g1_2 A, as_g1_3 A, as_g1_4 A, as_g1_6 A, as_g1_7 A, as_g1_8 A, as_g1_9 A, as_g1_11 A, as_g1_12 A, as_g1_13 A, as_g1_14 A, as_o2 A, as_g2_0 A, as_t3 A, as_r3 A, as_w3 A, as_l3 A, as_o4 A, as_g4_0 A, as_o5 A, as_g5_0 A, as_g5_1 A, as_t6 A, as_r6 A, as_w6 A, as_l6 A, as_t7 A, as_r7 A, as_w7 A, as_l7 A, as_o8 A, as_g8_0 A, as_g8_1 A, as_t9 A, as_r9 A, as_w9 A, as_l9 A, as_t10 A, as_r10 A, as_w10 A, as_l10 A, as_o28 A, as_g28_0 A, as_g28_1 A, as_g28_2 A, as_t29 A, as_r29 A, as_w29 A, as_l29 A, as_t30 A, as_r30 A, as_w30 A, as_l30 A, as_t31 A, as_r31 A, as_w31 A, as_l31 A, as_o50 A, as_g50_0 A, as_t790 A, as_r790 A, as_w790 A, as_l790 A, as_o791 A, as_g791_0 A, as_g791_1 A, as_g791_2 A, as_o999 A, as_g999_0 A, as_g999_1 A, as_g999_2 A, as_t1000 A, as_r1000 A, as_w1000 A, as_l1000 A, as_t1001 A, as_r1001 A, as_w1001 A, as_l1001 A, as_t1002 A, as_r1002 A, as_w1002 A, as_l1002 A, as_x11 A, as_x51 A, as_x792 A, as_x793 A, as_x794 A, as_t792 A, as_ln792 A, as_s11 A, as_so A, as_sg0 A, as_sg1 A, as_sg2 A, as_sr1 A, as_sr2 A, as_sr3 A, as_p51 A, c1, c2, cp_cpy, gi_san, g8]
  · rw [giM_un (by omega), gi_san (by omega), gi_san (by omega)]
  · rw [giM_un (by omega), gi_san (by omega), gi_sas, cpN_lt (by omega)]; exact gf' 0 (by omega)
  · rw [giM_un (by omega), gi_san (by omega), gi_sas, cpN_lt (by omega)]; exact gf' 1 (by omega)
  · rw [giM_un (by omega), gi_san (by omega), gi_sas, cpN_lt (by omega)]; exact gf' 2 (by omega)
  · rw [giM_un (by omega), gi_san (by omega), gi_sas, cpN_lt (by omega)]; exact gf' 3 (by omega)
  · rw [giM_un (by omega), gi_san (by omega), gi_sas, cpN_lt (by omega)]; exact gf' 4 (by omega)
  · rw [giM_ud, ud_s]; rfl
  · have hj : j < k := hj
    rw [giM_un (by omega), gi_sas, cpN_lt (by omega)]; exact gz j hj
theorem cs_ok {m : Nat} (A : SHP M) (hm : m < 4) : ∃ M', fS_copyFrom (12 + 4 * m) 28 M = some M' ∧ Fr M M' (12 + 4 * m) (12 + 4 * m + 3) ∧ (∀ k, k < 24 → giM M' (12 + 4 * m + 1) k = giM M 29 k ∧ giM M' (12 + 4 * m + 2) k = giM M 30 k ∧ giM M' (12 + 4 * m + 3) k = giM M 31 k) ∧ giM M' (12 + 4 * m) 3 = giM M 28 3 := by
  have c1 := cp_ok (as_a29 A) (as_sa A hm (k := 0) (by omega)) (Nat.le_refl 24)
  have c2 := cp_ok (as_a30 A) (as_sa A hm (k := 1) (by omega)) (Nat.le_refl 24)
  have c3 := cp_ok (as_a31 A) (as_sa A hm (k := 2) (by omega)) (Nat.le_refl 24)
  have c1 : cpM M 29 0 (12 + 4 * m + 1) 0 24 = true := c1
  have c2 : cpM M 30 0 (12 + 4 * m + 2) 0 24 = true := c2
  have c3 : cpM M 31 0 (12 + 4 * m + 3) 0 24 = true := c3
  have o1 := as_so A hm
  have r0 : grM M (12 + 4 * m) 0 = 12 + 4 * m + 1 := as_sg A hm (k := 0) (by omega)
  have r1 : grM M (12 + 4 * m) 1 = 12 + 4 * m + 2 := as_sg A hm (k := 1) (by omega)
  have r2 : grM M (12 + 4 * m) 2 = 12 + 4 * m + 3 := as_sg A hm (k := 2) (by omega)
  have n0 : Int32.toNatClampNeg 0 = 0 := rfl
  have n24 : Int32.toNatClampNeg 24 = 24 := rfl
  refine ⟨siM (saM (saM (saM M (12 + 4 * m + 1) (cpN (giM M 29) (giM M (12 + 4 * m + 1)) 24)) (12 + 4 * m + 2) (cpN (giM M 30) (giM M (12 + 4 * m + 2)) 24)) (12 + 4 * m + 3) (cpN (giM M 31) (giM M (12 + 4 * m + 3)) 24)) (12 + 4 * m) 3 (giM M 28 3), ?_, ⟨rfl, fun a ha => ?_⟩, fun k hk => ⟨?_, ?_, ?_⟩, ?_⟩
  · simp (disch := omega) only [fS_copyFrom, gd1n, as_o28 A, as_g28_0 A, as_g28_1 A, as_g28_2 A, o1, r0, r1, r2, d_nz, c1, c2, c3, n0, n24, cp_cpy, gi_san]
  · rw [giM_un (by omega), gi_san (by omega), gi_san (by omega), gi_san (by omega)]
  · rw [giM_un (by omega), gi_san (by omega), gi_san (by omega), gi_sas, cpN_lt hk]
  · rw [giM_un (by omega), gi_san (by omega), gi_sas, cpN_lt hk]
  · rw [giM_un (by omega), gi_sas, cpN_lt hk]
  · rw [giM_ud, ud_s]
end TX
