/-! SCRIPTS RUN: the reference's progress, the end of a scope -/
def sI (s : Nat) : Int32 := if s = 0 then mI else nI s
def hI (b : Bool) : Int32 := if b = true then nI 1 else nI 0
def PGm (M : Mem) (sd n d : Nat) (g : Nat → GoT) : Prop := giM M 1017 sd = nI n ∧ giM M 1003 23 = nI d ∧ ∀ r, r < n → giM M 1013 (24 * sd + r) = nI (g r).1 ∧ giM M 1014 (24 * sd + r) = nI (g r).2.1 ∧ giM M 1015 (24 * sd + r) = sI (g r).2.2.1 ∧ giM M 1016 (24 * sd + r) = hI (g r).2.2.2 ∧ (g r).2.2.1 ≤ 7
def RQ (sd : Nat) (M M' : Mem) : Prop := M'.2 = M.2 ∧ (∀ a, a ≠ 1003 → a ≠ 1011 → (a < 1013 ∨ 1017 < a) → giM M' a = giM M a) ∧ (∀ k, k ≠ 17 → k ≠ 23 → giM M' 1003 k = giM M 1003 k) ∧ (∀ a j, 1013 ≤ a → a ≤ 1016 → (j < 24 * sd ∨ 24 * sd + 24 ≤ j) → giM M' a j = giM M a j) ∧ ∀ j, j ≠ sd → giM M' 1017 j = giM M 1017 j
section ME
variable {M M1 M2 : Mem} {ρ : Rul} {β n d sd : Nat} {S : HSt} {g : Nat → GoT}
theorem RQ_refl (sd : Nat) (M : Mem) : RQ sd M M := ⟨rfl, fun _ _ _ _ => rfl, fun _ _ _ => rfl, fun _ _ _ _ _ => rfl, fun _ _ => rfl⟩
theorem RQ_tr (F : RQ sd M M1) (G : RQ sd M1 M2) : RQ sd M M2 := ⟨G.1.trans F.1, fun a h1 h2 h3 => (G.2.1 a h1 h2 h3).trans (F.2.1 a h1 h2 h3), fun k h1 h2 => (G.2.2.1 k h1 h2).trans (F.2.2.1 k h1 h2), fun a j h1 h2 h3 => (G.2.2.2.1 a j h1 h2 h3).trans (F.2.2.2.1 a j h1 h2 h3), fun j hj => (G.2.2.2.2 j hj).trans (F.2.2.2.2 j hj)⟩
theorem RQ_RF (F : RF M M1) : RQ sd M M1 := ⟨F.1, fun a h1 h2 _ => F.2.1 a h2 h1, fun k h1 _ => F.2.2 k h1, fun a j h1 h2 _ => by rw [F.2.1 a (by omega) (by omega)], fun j _ => by rw [F.2.1 1017 (by omega) (by omega)]⟩
theorem RQ_c {a r : Nat} {z : Int32} (h1 : 1013 ≤ a) (h2 : a ≤ 1016) (hr : r < 24) : RQ sd M (siM M a (24 * sd + r) z) := ⟨rfl, fun b _ _ h3 => giM_un (by omega), fun k _ _ => by rw [giM_un (by omega)], fun b j _ _ hj => by
  by_cases e : b = a
  · rw [e, giM_ud, ud_n _ _ (by omega)]
  · rw [giM_un e], fun j _ => by rw [giM_un (by omega)]⟩
theorem RQ_17 {z : Int32} : RQ sd M (siM M 1017 sd z) := ⟨rfl, fun b _ _ h3 => giM_un (by omega), fun k _ _ => by rw [giM_un (by omega)], fun b j _ _ hj => by rw [giM_un (by omega)], fun j hj => by rw [giM_ud, ud_n _ _ hj]⟩
theorem RQ_23 {z : Int32} : RQ sd M (siM M 1003 23 z) := ⟨rfl, fun b h1 _ _ => giM_un h1, fun k _ h => by rw [giM_ud, ud_n _ _ h], fun b j _ _ hj => by rw [giM_un (by omega)], fun j hj => by rw [giM_un (by omega)]⟩
theorem RC_RQ (C : RC M ρ S) (F : RQ sd M M1) (e : giM M1 1011 = giM M 1011) : RC M1 ρ S := by
  refine ⟨MS_2 F.1 C.1, ?_, C.2.2.1, by rw [e]; exact C.2.2.2⟩
  unfold RuM
  rw [F.2.1 1007 (by omega) (by omega) (by omega), F.2.1 1008 (by omega) (by omega) (by omega), F.2.2.1 10 (by omega) (by omega)]
  exact C.2.1
theorem PGm_RF (P : PGm M sd n d g) (F : RF M M1) : PGm M1 sd n d g := by
  unfold PGm
  rw [F.2.1 1017 (by omega) (by omega), F.2.2 23 (by omega), F.2.1 1013 (by omega) (by omega), F.2.1 1014 (by omega) (by omega), F.2.1 1015 (by omega) (by omega), F.2.1 1016 (by omega) (by omega)]
  exact P
theorem mlow_loop (C : RC M ρ S) (V : Inv ρ β S) : ∀ (k f i : Nat), i + k = rT ρ → k < f → LM_lowestLiving_2 f 1003 (nI i) M = some (oN (lo (fun t => decide (lv S t = 1)) i k), M) := by
  have H := C.1
  have R := C.2.1
  have hR := ru_b C.2.2.1
  intro k
  induction k with
  | zero =>
    intro f i hi hf
    obtain ⟨fu, rfl⟩ : ∃ fu, f = fu + 1 := ⟨f - 1, by omega⟩
    show BM_lowestLiving_2 (LM_lowestLiving_2 fu) 1003 (nI i) M = some (mI, M)
    simp (disch := omega) only [BM_lowestLiving_2, gd1n, bs1n, ↓reduceIte, d_nz, d_nn, or_true, true_or, or_false, false_or, decide_true, Sum.elim_inl, Sum.elim_inr, ↓l_m1, l_0, l_1, l_2, l_3, l_4, l_5, l_6, l_7, l_8, l_9, l_10, l_16, l_17, l_18, l_20, l_23, l_24, l_30, l_31, l_32, l_39, l_40, l_41, l_48, l_57, l_58, l_59, l_60, l_63, l_90, l_97, l_98, l_99, l_100, l_102, l_103, l_104, l_107, l_109, l_112, l_115, l_116, l_117, l_120, l_122, l_126, l_166, l_180, l_240, l_255, l_640, l_999, l_2656, l_3064, l_3704, l_3708, l_3712, l_3713, l_3893, l_155720, l_1000000, n_ltT, n_ltF, n_leT, n_leF, n_eqT, n_eqF, n_eqm, n_eqm', n_mltn, n_mlen, n_nltm, n_nlem, n_mltm, n_mlem, n_add, n_mul, n_sub, n_subm, n_cl, n_ofNat, n_div, n_mod, obM_si, rdI_si, wrI_si, lnI_si, grM_si', tgM_si', obM_sa, rdI_sa, wrI_sa, lnI_sa, grM_sa', tgM_sa', ms_ob H, ms_g1 H, ms_g5 H, ms_g6 H, ms_g8 H, ms_g9 H, ms_g11 H, ms_g12 H, ms_g15 H, ms_g16 H, ms_g18 H, ms_g19 H, ms_g20 H, ms_g22 H, ms_g24 H, ms_g27 H, ms_g32 H, ms_g21 H, ms_t1 H, ms_r1 H, ms_w1 H, ms_l1 H, ms_t5 H, ms_r5 H, ms_w5 H, ms_l5 H, ms_t6 H, ms_r6 H, ms_w6 H, ms_l6 H, ms_t8 H, ms_r8 H, ms_w8 H, ms_l8 H, ms_t9 H, ms_r9 H, ms_w9 H, ms_l9 H, ms_t11 H, ms_r11 H, ms_w11 H, ms_l11 H, ms_t12 H, ms_r12 H, ms_w12 H, ms_l12 H, ms_t15 H, ms_r15 H, ms_w15 H, ms_l15 H, ms_t16 H, ms_r16 H, ms_w16 H, ms_l16 H, ms_t18 H, ms_r18 H, ms_w18 H, ms_l18 H, ms_t19 H, ms_r19 H, ms_w19 H, ms_l19 H, ms_t20 H, ms_r20 H, ms_w20 H, ms_l20 H, ms_t22 H, ms_r22 H, ms_w22 H, ms_l22 H, ms_t24 H, ms_r24 H, ms_w24 H, ms_l24 H, ms_t27 H, ms_r27 H, ms_w27 H, ms_l27 H, ms_t32 H, ms_r32 H, ms_w32 H, ms_l32 H, ms_b H, rm_T R, rm_P R, rm_U R, rm_B R, rm_H R, rm_K R]
  | succ k ih =>
    intro f i hi hf
    obtain ⟨fu, rfl⟩ : ∃ fu, f = fu + 1 := ⟨f - 1, by omega⟩
    have hl := (V.2.2.2.2.1 i (by omega)).1
    have e := (C.2.2.2.2.2.2.1 i (by omega)).1
    have ih' := ih fu (i + 1) (by omega) (by omega)
    show BM_lowestLiving_2 (LM_lowestLiving_2 fu) 1003 (nI i) M = some (oN (if decide (lv S i = 1) = true then some i else lo (fun t => decide (lv S t = 1)) (i + 1) k), M)
    rcases (show lv S i = 0 ∨ lv S i = 1 by omega) with h0 | h1
    · rw [h0] at e
      rw [if_neg (by rw [h0]; decide)]
      simp (disch := omega) only [BM_lowestLiving_2, gd1n, bs1n, ↓reduceIte, d_nz, d_nn, or_true, true_or, or_false, false_or, decide_true, Sum.elim_inl, Sum.elim_inr, ↓l_m1, l_0, l_1, l_2, l_3, l_4, l_5, l_6, l_7, l_8, l_9, l_10, l_16, l_17, l_18, l_20, l_23, l_24, l_30, l_31, l_32, l_39, l_40, l_41, l_48, l_57, l_58, l_59, l_60, l_63, l_90, l_97, l_98, l_99, l_100, l_102, l_103, l_104, l_107, l_109, l_112, l_115, l_116, l_117, l_120, l_122, l_126, l_166, l_180, l_240, l_255, l_640, l_999, l_2656, l_3064, l_3704, l_3708, l_3712, l_3713, l_3893, l_155720, l_1000000, n_ltT, n_ltF, n_leT, n_leF, n_eqT, n_eqF, n_eqm, n_eqm', n_mltn, n_mlen, n_nltm, n_nlem, n_mltm, n_mlem, n_add, n_mul, n_sub, n_subm, n_cl, n_ofNat, n_div, n_mod, obM_si, rdI_si, wrI_si, lnI_si, grM_si', tgM_si', obM_sa, rdI_sa, wrI_sa, lnI_sa, grM_sa', tgM_sa', ms_ob H, ms_g1 H, ms_g5 H, ms_g6 H, ms_g8 H, ms_g9 H, ms_g11 H, ms_g12 H, ms_g15 H, ms_g16 H, ms_g18 H, ms_g19 H, ms_g20 H, ms_g22 H, ms_g24 H, ms_g27 H, ms_g32 H, ms_g21 H, ms_t1 H, ms_r1 H, ms_w1 H, ms_l1 H, ms_t5 H, ms_r5 H, ms_w5 H, ms_l5 H, ms_t6 H, ms_r6 H, ms_w6 H, ms_l6 H, ms_t8 H, ms_r8 H, ms_w8 H, ms_l8 H, ms_t9 H, ms_r9 H, ms_w9 H, ms_l9 H, ms_t11 H, ms_r11 H, ms_w11 H, ms_l11 H, ms_t12 H, ms_r12 H, ms_w12 H, ms_l12 H, ms_t15 H, ms_r15 H, ms_w15 H, ms_l15 H, ms_t16 H, ms_r16 H, ms_w16 H, ms_l16 H, ms_t18 H, ms_r18 H, ms_w18 H, ms_l18 H, ms_t19 H, ms_r19 H, ms_w19 H, ms_l19 H, ms_t20 H, ms_r20 H, ms_w20 H, ms_l20 H, ms_t22 H, ms_r22 H, ms_w22 H, ms_l22 H, ms_t24 H, ms_r24 H, ms_w24 H, ms_l24 H, ms_t27 H, ms_r27 H, ms_w27 H, ms_l27 H, ms_t32 H, ms_r32 H, ms_w32 H, ms_l32 H, ms_b H, rm_T R, rm_P R, rm_U R, rm_B R, rm_H R, rm_K R, e, ih']
    · rw [h1] at e
      rw [if_pos (by rw [h1]; decide)]
      simp (disch := omega) only [BM_lowestLiving_2, gd1n, bs1n, ↓reduceIte, d_nz, d_nn, or_true, true_or, or_false, false_or, decide_true, Sum.elim_inl, Sum.elim_inr, ↓l_m1, l_0, l_1, l_2, l_3, l_4, l_5, l_6, l_7, l_8, l_9, l_10, l_16, l_17, l_18, l_20, l_23, l_24, l_30, l_31, l_32, l_39, l_40, l_41, l_48, l_57, l_58, l_59, l_60, l_63, l_90, l_97, l_98, l_99, l_100, l_102, l_103, l_104, l_107, l_109, l_112, l_115, l_116, l_117, l_120, l_122, l_126, l_166, l_180, l_240, l_255, l_640, l_999, l_2656, l_3064, l_3704, l_3708, l_3712, l_3713, l_3893, l_155720, l_1000000, n_ltT, n_ltF, n_leT, n_leF, n_eqT, n_eqF, n_eqm, n_eqm', n_mltn, n_mlen, n_nltm, n_nlem, n_mltm, n_mlem, n_add, n_mul, n_sub, n_subm, n_cl, n_ofNat, n_div, n_mod, obM_si, rdI_si, wrI_si, lnI_si, grM_si', tgM_si', obM_sa, rdI_sa, wrI_sa, lnI_sa, grM_sa', tgM_sa', ms_ob H, ms_g1 H, ms_g5 H, ms_g6 H, ms_g8 H, ms_g9 H, ms_g11 H, ms_g12 H, ms_g15 H, ms_g16 H, ms_g18 H, ms_g19 H, ms_g20 H, ms_g22 H, ms_g24 H, ms_g27 H, ms_g32 H, ms_g21 H, ms_t1 H, ms_r1 H, ms_w1 H, ms_l1 H, ms_t5 H, ms_r5 H, ms_w5 H, ms_l5 H, ms_t6 H, ms_r6 H, ms_w6 H, ms_l6 H, ms_t8 H, ms_r8 H, ms_w8 H, ms_l8 H, ms_t9 H, ms_r9 H, ms_w9 H, ms_l9 H, ms_t11 H, ms_r11 H, ms_w11 H, ms_l11 H, ms_t12 H, ms_r12 H, ms_w12 H, ms_l12 H, ms_t15 H, ms_r15 H, ms_w15 H, ms_l15 H, ms_t16 H, ms_r16 H, ms_w16 H, ms_l16 H, ms_t18 H, ms_r18 H, ms_w18 H, ms_l18 H, ms_t19 H, ms_r19 H, ms_w19 H, ms_l19 H, ms_t20 H, ms_r20 H, ms_w20 H, ms_l20 H, ms_t22 H, ms_r22 H, ms_w22 H, ms_l22 H, ms_t24 H, ms_r24 H, ms_w24 H, ms_l24 H, ms_t27 H, ms_r27 H, ms_w27 H, ms_l27 H, ms_t32 H, ms_r32 H, ms_w32 H, ms_l32 H, ms_b H, rm_T R, rm_P R, rm_U R, rm_B R, rm_H R, rm_K R, e]
      rfl
theorem mlow_ok (C : RC M ρ S) (V : Inv ρ β S) : fM_lowestLiving 1003 M = some (oN (lowL ρ S), M) := by
  have hR := ru_b C.2.2.1
  unfold fM_lowestLiving
  have e : LM_lowestLiving_2 1000000 1003 0 M = some (oN (lowL ρ S), M) := mlow_loop C V (rT ρ) 1000000 0 (by omega) (by omega)
  rw [e, bs1n]
theorem hI_0 {b : Bool} : (hI b = 0) = (b = false) := by
  cases b with
  | true => exact propext ⟨fun h => absurd h (by decide), fun h => by cases h⟩
  | false => exact propext ⟨fun _ => rfl, fun _ => rfl⟩
theorem PGm_hs {k : Nat} {b : Bool} (P : PGm M sd n d g) (hn : n ≤ 24) (hk : k < n) : PGm (siM M 1016 (24 * sd + k) (hI b)) sd n d (ud g k ((g k).1, (g k).2.1, (g k).2.2.1, b)) := by
  refine ⟨by rw [giM_un (by omega)]; exact P.1, by rw [giM_un (by omega)]; exact P.2.1, fun r hr => ?_⟩
  have p := P.2.2 r hr
  rw [giM_un (show (1013 : Nat) ≠ 1016 by omega), giM_un (show (1014 : Nat) ≠ 1016 by omega), giM_un (show (1015 : Nat) ≠ 1016 by omega), giM_ud, ud_at, ud_at]
  by_cases e : r = k
  · rw [if_pos e, if_pos (show 24 * sd + r = 24 * sd + k by omega)]
    rw [e] at p ⊢
    exact ⟨p.1, p.2.1, p.2.2.1, rfl, p.2.2.2.2⟩
  · rw [if_neg e, if_neg (show ¬ 24 * sd + r = 24 * sd + k by omega)]
    exact p
theorem PGm_sc {k : Nat} (P : PGm M sd n d g) (hn : n ≤ 24) (hk : k < n) : PGm (siM M 1015 (24 * sd + k) mI) sd n d (ud g k ((g k).1, (g k).2.1, 0, (g k).2.2.2)) := by
  refine ⟨by rw [giM_un (by omega)]; exact P.1, by rw [giM_un (by omega)]; exact P.2.1, fun r hr => ?_⟩
  have p := P.2.2 r hr
  rw [giM_un (show (1013 : Nat) ≠ 1015 by omega), giM_un (show (1014 : Nat) ≠ 1015 by omega), giM_un (show (1016 : Nat) ≠ 1015 by omega), giM_ud, ud_at, ud_at]
  by_cases e : r = k
  · rw [if_pos e, if_pos (show 24 * sd + r = 24 * sd + k by omega)]
    rw [e] at p ⊢
    exact ⟨p.1, p.2.1, rfl, p.2.2.2.1, by show 0 ≤ 7; omega⟩
  · rw [if_neg e, if_neg (show ¬ 24 * sd + r = 24 * sd + k by omega)]
    exact p
theorem mE52 {K : Nat → Int32 → Mem → Option Mem} {k : Nat} (P : PGm M 0 n d g) (C : RC M ρ S) (V : OKS ρ β S) (G : GOK ρ S n g) (hk : k < n) (hn : n ≤ 24) : ∃ M', BM_endScope_52 K 1003 (nI k) (oN (whoE ρ S (g k).2.1)) M = K 1003 (pdI k) M' ∧ RQ 0 M M' ∧ PGm M' 0 n d (ud g k ((g k).1, (g k).2.1, 0, (eOne ρ (g k) S).2)) ∧ RC M' ρ (eOne ρ (g k) S).1 := by
  have hR := ru_b C.2.2.1
  have H := C.1
  have p := P.2.2 k hk
  have zk : 24 * 0 + k = k := by omega
  rw [zk] at p
  have ud2 : ∀ (x y : GoT), ud (ud g k x) k y = ud g k y := fun x y => by
    funext r
    rw [ud_at, ud_at, ud_at]
    by_cases e : r = k
    · rw [if_pos e, if_pos e]
    · rw [if_neg e, if_neg e, if_neg e]
  have e86 : ∀ M, MS M → BM_endScope_86 K 1003 (nI k) M = K 1003 (pdI k) (siM M 1015 k mI) := fun M H => by
    unfold BM_endScope_86 BM_endScope_93
    rw [ms_ob H, gd1n, ms_g20 H, d_nz (by omega), gd1n, ar_wr (ms_a20 H) (show k < 48 by omega), gd1n, n_cl (by omega), ← pd_s]
    rfl
  have sc1 : ∀ M1 b, PGm M1 0 n d (ud g k ((g k).1, (g k).2.1, (g k).2.2.1, b)) → PGm (siM M1 1015 k mI) 0 n d (ud g k ((g k).1, (g k).2.1, 0, b)) := fun M1 b P1 => by
    have := PGm_sc (k := k) P1 hn hk
    rw [zk, ud_s, ud2] at this
    exact this
  have keep : ∀ b, (g k).2.2.2 = b → ud g k ((g k).1, (g k).2.1, (g k).2.2.1, b) = g := fun b hb => by
    funext r
    rw [ud_at]
    by_cases e : r = k
    · rw [if_pos e, e, ← hb]
    · rw [if_neg e]
  have RQ15 : ∀ M, RQ 0 M (siM M 1015 k mI) := fun M => by
    have := RQ_c (sd := 0) (M := M) (a := 1015) (r := k) (z := mI) (by omega) (by omega) (by omega)
    rw [zk] at this
    exact this
  cases hs : (g k).2.2.2 with
  | false =>
    have e1 : eOne ρ (g k) S = (S, false) := by
      unfold eOne
      cases whoE ρ S (g k).2.1 with
      | none => show (S, (g k).2.2.2) = _; rw [hs]
      | some t => exact if_neg (by rw [hs]; decide)
    rw [e1]
    have p4 := p.2.2.2.1
    rw [hs] at p4
    refine ⟨siM M 1015 k mI, ?_, RQ15 M, sc1 M false (by rw [keep false hs]; exact P), RC_RQ C (RQ15 M) (giM_un (by omega))⟩
    unfold BM_endScope_52
    rw [ms_ob H, gd1n, ms_g21 H, d_nz (by omega), gd1n, ms_b H (show k < 48 by omega), gd1n, n_cl (by omega), p4, if_pos (show hI false = 0 from rfl)]
    exact e86 M H
  | true =>
    have p4 := p.2.2.2.1
    rw [hs] at p4
    cases ew : whoE ρ S (g k).2.1 with
    | none =>
      have e1 : eOne ρ (g k) S = (S, true) := by
        unfold eOne
        rw [ew]
        show (S, (g k).2.2.2) = _
        rw [hs]
      rw [e1]
      refine ⟨siM M 1015 k mI, ?_, RQ15 M, sc1 M true (by rw [keep true hs]; exact P), RC_RQ C (RQ15 M) (giM_un (by omega))⟩
      show BM_endScope_52 K 1003 (nI k) mI M = _
      unfold BM_endScope_52
      rw [ms_ob H, gd1n, ms_g21 H, d_nz (by omega), gd1n, ms_b H (show k < 48 by omega), gd1n, n_cl (by omega), p4, if_neg (show ¬ hI true = 0 by decide), if_pos (show mI = -1 from rfl)]
      exact e86 M H
    | some t =>
      have ht := who_lt (G.1 k hk).1 ew
      have hB := (G.1 k hk).2.2 hs
      have nt1 : ¬ nI t = -1 := of_eq_false (n_eqm (show t < 2147483648 by omega))
      have e1 : eOne ρ (g k) S = (aFree ρ t ((g k).1 / 100) ((g k).1 % 100) S, false) := by
        unfold eOne
        rw [ew]
        exact if_pos hs
      rw [e1]
      obtain ⟨M2, j1, F2, C2⟩ := mFree C V.1 V.2 ht.1 (show (g k).1 / 100 < 16 by have := hB.1; omega) hB.2.1 hB.2.2.2
      rw [show 100 * ((g k).1 / 100) + (g k).1 % 100 = (g k).1 by omega] at j1
      have H2 := C2.1
      have P2 := PGm_RF P F2
      have P3 := PGm_hs (k := k) (b := false) P2 hn hk
      rw [zk] at P3
      have R3 : RQ 0 M2 (siM M2 1016 k (hI false)) := by
        have := RQ_c (sd := 0) (M := M2) (a := 1016) (r := k) (z := hI false) (by omega) (by omega) (by omega)
        rw [zk] at this
        exact this
      have C3 : RC (siM M2 1016 k (hI false)) ρ (aFree ρ t ((g k).1 / 100) ((g k).1 % 100) S) := RC_RQ C2 R3 (giM_un (by omega))
      refine ⟨siM (siM M2 1016 k (hI false)) 1015 k mI, ?_, RQ_tr (RQ_RF F2) (RQ_tr R3 (RQ15 _)), sc1 _ false P3, RC_RQ C3 (RQ15 _) (giM_un (by omega))⟩
      show BM_endScope_52 K 1003 (nI k) (nI t) M = _
      unfold BM_endScope_52
      rw [ms_ob H, gd1n, ms_g21 H, d_nz (by omega), gd1n, ms_b H (show k < 48 by omega), gd1n, n_cl (by omega), p4, if_neg (show ¬ hI true = 0 by decide), if_neg nt1, ms_g18 H, d_nz (by omega), gd1n, ar_rd (ms_a18 H) (show k < 48 by omega), gd1n, p.1, j1, bs1n, ms_ob H2, gd1n, ms_g21 H2, d_nz (by omega), gd1n, ms_b H2 (show k < 48 by omega), gd1n]
      exact e86 _ C3.1
theorem mE_loop (hn : n ≤ 24) (d0 : 0 < d) (d7 : d ≤ 7) : ∀ k f M S g, k ≤ n → k < f → PGm M 0 n d g → RC M ρ S → OKS ρ β S → GOK ρ S n g → ∃ M', LM_endScope_9 f 1003 (pdI k) M = some M' ∧ RQ 0 M M' ∧ PGm M' 0 n (d - 1) (eS ρ d k S g).2 ∧ RC M' ρ (eS ρ d k S g).1 := by
  intro k
  induction k with
  | zero =>
    intro f M S g hk hf P C V G
    obtain ⟨fu, rfl⟩ : ∃ fu, f = fu + 1 := ⟨f - 1, by omega⟩
    have H := C.1
    refine ⟨siM M 1003 23 (nI (d - 1)), ?_, RQ_23, ⟨by rw [giM_un (by omega)]; exact P.1, by rw [giM_ud, ud_s], fun r hr => ?_⟩, RC_RQ C (RQ_23 (sd := 0)) (giM_un (by omega))⟩
    · show BM_endScope_9 (LM_endScope_9 fu) 1003 mI M = _
      unfold BM_endScope_9
      rw [if_pos (show mI < 0 by decide), ms_ob H, gd1n, P.2.1, l_1, n_sub (by omega)]
    · rw [giM_un (by omega), giM_un (by omega), giM_un (by omega), giM_un (by omega)]
      exact P.2.2 r hr
  | succ k ih =>
    intro f M S g hk hf P C V G
    obtain ⟨fu, rfl⟩ : ∃ fu, f = fu + 1 := ⟨f - 1, by omega⟩
    have hR := ru_b C.2.2.1
    have H := C.1
    have p := P.2.2 k (by omega)
    rw [show 24 * 0 + k = k by omega] at p
    have nk : ¬ nI k < 0 := of_eq_false (n_ltF (a := k) (b := 0) (by omega) (by omega))
    show ∃ M', BM_endScope_9 (LM_endScope_9 fu) 1003 (nI k) M = some M' ∧ _
    unfold eS
    unfold BM_endScope_9
    rw [if_neg nk, ms_ob H, gd1n, ms_g20 H, d_nz (by omega), gd1n, ar_rd (ms_a20 H) (show k < 48 by omega), gd1n, n_cl (by omega), p.2.2.1, P.2.1]
    by_cases he : (g k).2.2.1 = d
    · rw [if_pos he, if_pos (show sI (g k).2.2.1 = nI d by unfold sI; rw [if_neg (by omega), he]), ms_g19 H, d_nz (by omega), gd1n, ar_rd (ms_a19 H) (show k < 48 by omega), gd1n, p.2.1]
      have hy := (G.1 k (by omega)).1
      have hL := mLive C V.1 hy
      have hl := (V.1.2.2.2.2.1 (g k).2.1 (by omega)).1
      have low := mlow_ok C V.1
      obtain ⟨M2, e2, F2, P2, C2⟩ := mE52 (K := LM_endScope_9 fu) (k := k) P C V G (by omega) hn
      obtain ⟨V3, G3⟩ := e1_ok C.2.2.1 V G (show k < n by omega)
      obtain ⟨M3, e3, F3, P3, C3⟩ := ih fu M2 _ _ (by omega) (by omega) P2 C2 V3 G3
      refine ⟨M3, ?_, RQ_tr F2 F3, P3, C3⟩
      rw [hL, bs1n]
      have e2 := e2.trans e3
      unfold whoE at e2
      rcases (show lv S (g k).2.1 = 0 ∨ lv S (g k).2.1 = 1 by omega) with h0 | h1
      · rw [if_neg (by omega)] at e2
        rw [h0, if_pos (show ((nI 0, M) : Int32 × Mem).1 = 0 from rfl), ms_ob H, gd1n, low, bs1n]
        exact e2
      · rw [if_pos h1] at e2
        rw [h1, if_neg (show ¬ ((nI 1, M) : Int32 × Mem).1 = 0 from (show ¬ nI 1 = 0 by decide)), ms_ob H, gd1n, ms_g19 H, d_nz (by omega), gd1n, ar_rd (ms_a19 H) (show k < 48 by omega), gd1n, p.2.1]
        exact e2
    · rw [if_neg he, if_neg (show ¬ sI (g k).2.2.1 = nI d from fun e => by
        unfold sI at e
        by_cases h0 : (g k).2.2.1 = 0
        · rw [if_pos h0] at e
          exact absurd e (of_eq_false (n_eqm' (a := d) (by omega)))
        · rw [if_neg h0] at e
          exact he (n_inj (by have := p.2.2.2.2; omega) (by omega) e))]
      obtain ⟨M3, e3, F3, P3, C3⟩ := ih fu M S g (by omega) (by omega) P C V G
      refine ⟨M3, ?_, F3, P3, C3⟩
      unfold BM_endScope_93
      have : nI k + (-1) = pdI k := pd_s k
      rw [this]
      exact e3
theorem mEnd (hn : n ≤ 24) (d0 : 0 < d) (d7 : d ≤ 7) (P : PGm M 0 n d g) (C : RC M ρ S) (V : OKS ρ β S) (G : GOK ρ S n g) : ∃ M', fM_endScope 1003 M = some M' ∧ RQ 0 M M' ∧ PGm M' 0 n (d - 1) (eS ρ d n S g).2 ∧ RC M' ρ (eS ρ d n S g).1 := by
  obtain ⟨M1, k1, F1, P1, C1⟩ := mE_loop hn d0 d7 n 1000000 M S g (Nat.le_refl n) (by omega) P C V G
  have H := C.1
  refine ⟨M1, ?_, F1, P1, C1⟩
  have e : nI n - 1 = pdI n := by
    cases n with
    | zero => rfl
    | succ n => rw [l_1, n_sub (by omega)]; rfl
  have r0 : rdI M 1017 0 = true := ar_rd (ms_a22 H) (i := 0) (by omega)
  unfold fM_endScope
  rw [ms_ob H, gd1n, ms_g22 H, d_nz (by omega), gd1n, r0, gd1n, show Int32.toNatClampNeg 0 = 0 from rfl, P.1, e, k1, bs1n]
end ME
