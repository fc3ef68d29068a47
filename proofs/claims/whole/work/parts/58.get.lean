/-! GET: which page -/
def oN : Option Nat → Int32
  | none => mI
  | some p => nI p
def lo (P : Nat → Bool) : Nat → Nat → Option Nat
  | _, 0 => none
  | i, k + 1 => if P i = true then some i else lo P (i + 1) k
theorem lo_spec {P : Nat → Bool} : ∀ {k i p : Nat}, lo P i k = some p → i ≤ p ∧ p < i + k ∧ P p = true
  | 0, _, _, h => by cases h
  | k + 1, i, p, h => by
    unfold lo at h
    by_cases hp : P i = true
    · rw [if_pos hp] at h
      obtain rfl := Option.some.inj h
      exact ⟨Nat.le_refl _, by omega, hp⟩
    · rw [if_neg hp] at h
      obtain ⟨h1, h2, h3⟩ := lo_spec h
      exact ⟨by omega, by omega, h3⟩
theorem lo_congr {P Q : Nat → Bool} : ∀ {k i : Nat}, (∀ j, i ≤ j → j < i + k → P j = Q j) → lo P i k = lo Q i k
  | 0, _, _ => rfl
  | k + 1, i, h => by
    unfold lo
    rw [h i (Nat.le_refl _) (by omega), lo_congr (fun j h1 h2 => h j (by omega) (by omega))]
def hasL (S : HSt) (p : Nat) : Bool := decide (0 < lst S p)
def isAd (c : Nat) (S : HSt) (p : Nat) : Bool := decide (kd S p = 3 ∧ cl S p = c ∧ 0 < lst S p)
def isEm (S : HSt) (p : Nat) : Bool := decide (kd S p = 0)
def pgF (ρ : Rul) (t c : Nat) (S : HSt) : Option Nat := ((qu S (6 * t + c)).find? (hasL S)).or ((lo (isAd c S) 0 (rP ρ)).or (lo (isEm S) 0 (rP ρ)))
def hwF (t p : Nat) (S : HSt) : Nat := if kd S p = 0 then 5 else if kd S p = 3 then 4 else if (qu S (6 * t + cl S p)).head? ≠ some p then 3 else if bl S (3 * p) ≠ [] then 0 else if bl S (3 * p + 1) ≠ [] then 1 else 2
def oPop (q : Nat) : List Nat → HSt → HSt
  | [], S => S
  | x :: xs, S => oPop q xs (oFull x q S)
def gPre (t c : Nat) (S : HSt) : List Nat := (qu S (6 * t + c)).takeWhile (fun x => !hasL S x)
def oF1 (ρ : Rul) (c p : Nat) (S : HSt) : HSt := wkd (wcl (whd (wbl S (ud (bl S) (3 * p) (List.range (rU ρ / rZ ρ c)))) (ud (hd S) p (fun b => if b < rU ρ / rZ ρ c then 0 else hd S p b))) (ud (cl S) p c)) (ud (kd S) p 3)
def aG2 (ρ : Rul) (t c p : Nat) (S : HSt) : HSt := if kd S p = 0 then oFill ρ t c p (oPop (6 * t + c) (gPre t c S) S) else if kd S p = 3 then oAdopt t p (oPop (6 * t + c) (gPre t c S) S) else oPop (6 * t + c) (gPre t c S) S
def aBlk (ρ : Rul) (t c p : Nat) (S : HSt) : Nat := (bl (oColl p (aG2 ρ t c p S)) (3 * p)).headD 0
def oGt (t : Nat) (S : HSt) : HSt := wgt S (ud (gt S) t (gt S t + 1))
def aGot (ρ : Rul) (t c p : Nat) (S : HSt) : HSt := oGt t (oTake p (oColl p (aG2 ρ t c p S)))
def aBeat (ρ : Rul) (t : Nat) (S : HSt) : HSt := if gt S t % rH ρ = 0 then aTick ρ t S else S
def aGet (ρ : Rul) (t c p : Nat) (S : HSt) : HSt := aBeat ρ t (aGot ρ t c p S)
def oNote (e : Nat × Nat × Nat) (S : HSt) : HSt := wlg S ((e :: lg S).take 60)
def kcF (ρ : Rul) (v : Int32) : Option Nat := if v < nI 1 then none else lo (fun k => decide (v ≤ nI (rZ ρ k))) 0 (rK ρ)
theorem xor_nn {a b : Nat} (ha : a < 2147483648) (hb : b < 2147483648) : nI 0 ≤ nI a ^^^ nI b := by
  have e : nI a ^^^ nI b = nI (a ^^^ b) := by
    apply Int32.toBitVec_inj.mp
    rw [Int32.toBitVec_xor]
    show BitVec.ofNat 32 a ^^^ BitVec.ofNat 32 b = BitVec.ofNat 32 (a ^^^ b)
    rw [BitVec.ofNat_xor]
  rw [e]
  have h2 : a ^^^ b < 2 ^ 31 := Nat.xor_lt_two_pow ha hb
  exact nI_le (Nat.zero_le _) (by omega)
theorem fmod_ok {a b : Nat} {M : Mem} (ha : a < 2147483648) (hb : b < 2147483648) (h0 : 0 < b) : fK_floorMod (nI a) (nI b) M = some (nI (a % b), M) := by
  have h1 : (nI 0 ≤ nI a ^^^ nI b) = True := eq_true (xor_nn ha hb)
  have h2 : b * (a / b) ≤ a := Nat.mul_div_le a b
  simp (disch := omega) only [fK_floorMod, BK_floorMod_18, gd1, bs1, ↓reduceIte, d_nz, d_nn, or_true, true_or, or_false, false_or, decide_true, Sum.elim_inl, Sum.elim_inr, ↓l_m1, l_0, l_1, l_2, l_3, l_4, l_5, l_6, l_7, l_8, l_9, l_10, l_16, l_17, l_18, l_20, l_23, l_24, l_30, l_31, l_32, l_39, l_40, l_41, l_48, l_57, l_58, l_59, l_60, l_63, l_90, l_97, l_98, l_99, l_100, l_102, l_103, l_104, l_107, l_109, l_112, l_115, l_116, l_117, l_120, l_122, l_126, l_166, l_180, l_240, l_255, l_640, l_999, l_2656, l_3064, l_3704, l_3708, l_3712, l_3713, l_3893, l_155720, l_1000000, h1, n_div, n_mul, n_mod h2, n_eqF, not_false_eq_true]
section CG
variable {M : Mem} {h : Nat} {ρ : Rul} {β : Nat} {S : HSt} {p t b l q c : Nat}
theorem CC_mono {β' : Nat} (hb : β ≤ β') (C : CC M h ρ β S) : CC M h ρ β' S := by
  obtain ⟨H, R, hR, C1, C2, C3, C4, C5, n, n1, n2⟩ := C
  exact ⟨H, R, hR, C1, C2, C3, C4, C5, n, by omega, n2⟩
theorem Inv_mono {β' : Nat} (hb : β ≤ β') (V : Inv ρ β S) : Inv ρ β' S := by
  obtain ⟨h1, h2, h3, h4, h5, h6⟩ := V
  exact ⟨h1, h2, h3, h4, fun t ht => ⟨(h5 t ht).1, by have := (h5 t ht).2; omega⟩, h6⟩
theorem lu (V : Inv ρ β S) (hp : p < 16) : (cut ρ S p ≤ usd ρ S p) = ¬ 0 < lst S p := by
  have := lst_le V.2.1 hp
  unfold usd
  exact propext (by omega)
theorem pf_loop1 (C : CC M h ρ β S) (V : Inv ρ β S) (v : Int32) : ∀ (xs : List Nat) (f i : Nat) (x : Int32), LSg (giM M (h + 7)) x xs mI → (∀ p ∈ xs, p < 16) → i + xs.length ≤ 16 → xs.length < f → LH_pageFor_18 f h v x (nI i) M = some ((xs.find? (hasL S)).elim (.inr M) (fun p => .inl (nI p, M))) := by
  have H := C.1
  intro xs
  induction xs with
  | nil =>
    intro f i x hx _ hi hf
    obtain ⟨g, rfl⟩ : ∃ g, f = g + 1 := ⟨f - 1, by omega⟩
    cases hx
    show BH_pageFor_18 (LH_pageFor_18 g) h v mI (nI i) M = some (.inr M)
    rcases Nat.lt_or_ge i 16 with h1 | h1
    · simp (disch := omega) only [BH_pageFor_18, gd1, bs1, ↓reduceIte, d_nz, d_nn, or_true, true_or, or_false, false_or, decide_true, Sum.elim_inl, Sum.elim_inr, ↓l_m1, l_0, l_1, l_2, l_3, l_4, l_5, l_6, l_7, l_8, l_9, l_10, l_16, l_17, l_18, l_20, l_23, l_24, l_30, l_31, l_32, l_39, l_40, l_41, l_48, l_57, l_58, l_59, l_60, l_63, l_90, l_97, l_98, l_99, l_100, l_102, l_103, l_104, l_107, l_109, l_112, l_115, l_116, l_117, l_120, l_122, l_126, l_166, l_180, l_240, l_255, l_640, l_999, l_2656, l_3064, l_3704, l_3708, l_3712, l_3713, l_3893, l_155720, l_1000000, n_ltT, n_ltF, n_leT, n_leF, n_eqT, n_eqF, n_eqm, n_eqm', n_mltn, n_mlen, n_nltm, n_nlem, n_mltm, n_mlem, n_add, n_mul, n_sub, n_subm, n_cl, n_ofNat, n_div, n_mod, obM_si, rdI_si, wrI_si, lnI_si, grM_si', tgM_si', obM_sa, rdI_sa, wrI_sa, lnI_sa, grM_sa', tgM_sa']
    · simp (disch := omega) only [BH_pageFor_18, gd1, bs1, ↓reduceIte, d_nz, d_nn, or_true, true_or, or_false, false_or, decide_true, Sum.elim_inl, Sum.elim_inr, ↓l_m1, l_0, l_1, l_2, l_3, l_4, l_5, l_6, l_7, l_8, l_9, l_10, l_16, l_17, l_18, l_20, l_23, l_24, l_30, l_31, l_32, l_39, l_40, l_41, l_48, l_57, l_58, l_59, l_60, l_63, l_90, l_97, l_98, l_99, l_100, l_102, l_103, l_104, l_107, l_109, l_112, l_115, l_116, l_117, l_120, l_122, l_126, l_166, l_180, l_240, l_255, l_640, l_999, l_2656, l_3064, l_3704, l_3708, l_3712, l_3713, l_3893, l_155720, l_1000000, n_ltT, n_ltF, n_leT, n_leF, n_eqT, n_eqF, n_eqm, n_eqm', n_mltn, n_mlen, n_nltm, n_nlem, n_mltm, n_mlem, n_add, n_mul, n_sub, n_subm, n_cl, n_ofNat, n_div, n_mod, obM_si, rdI_si, wrI_si, lnI_si, grM_si', tgM_si', obM_sa, rdI_sa, wrI_sa, lnI_sa, grM_sa', tgM_sa']
  | cons y ys ih =>
    intro f i x hx hlt hi hf
    obtain ⟨g, rfl⟩ : ∃ g, f = g + 1 := ⟨f - 1, by omega⟩
    obtain ⟨rfl, hx⟩ := hx
    have hy := hlt y List.mem_cons_self
    rw [List.length_cons] at hi hf
    have h2 := ih g (i + 1) _ hx (fun z hz => hlt z (List.mem_cons_of_mem _ hz)) (by omega) (by omega)
    have hu := usedOf_ok C V hy
    have hc := cv_c C hy
    have hc2 := cut_le C.2.2.1 V.1 hy
    have hu2 := usd_le C.2.2.1 V hy
    have hlu := lu V hy
    show BH_pageFor_18 (LH_pageFor_18 g) h v (nI y) (nI i) M = _
    by_cases hl : 0 < lst S y
    · have h3 : usd ρ S y < cut ρ S y := by
        rw [eq_true hl, not_true] at hlu
        have := of_eq_false hlu
        omega
      rw [List.find?_cons_of_pos (by exact decide_eq_true hl)]
      simp (disch := omega) only [BH_pageFor_18, gd1, bs1, ↓reduceIte, d_nz, d_nn, or_true, true_or, or_false, false_or, decide_true, Sum.elim_inl, Sum.elim_inr, ↓l_m1, l_0, l_1, l_2, l_3, l_4, l_5, l_6, l_7, l_8, l_9, l_10, l_16, l_17, l_18, l_20, l_23, l_24, l_30, l_31, l_32, l_39, l_40, l_41, l_48, l_57, l_58, l_59, l_60, l_63, l_90, l_97, l_98, l_99, l_100, l_102, l_103, l_104, l_107, l_109, l_112, l_115, l_116, l_117, l_120, l_122, l_126, l_166, l_180, l_240, l_255, l_640, l_999, l_2656, l_3064, l_3704, l_3708, l_3712, l_3713, l_3893, l_155720, l_1000000, n_ltT, n_ltF, n_leT, n_leF, n_eqT, n_eqF, n_eqm, n_eqm', n_mltn, n_mlen, n_nltm, n_nlem, n_mltm, n_mlem, n_add, n_mul, n_sub, n_subm, n_cl, n_ofNat, n_div, n_mod, obM_si, rdI_si, wrI_si, lnI_si, grM_si', tgM_si', obM_sa, rdI_sa, wrI_sa, lnI_sa, grM_sa', tgM_sa', hs_ob H, hs_g0 H, hs_g1 H, hs_g2 H, hs_g3 H, hs_g4 H, hs_g5 H, hs_g6 H, hs_g7 H, hs_g8 H, hs_t1 H, hs_r1 H, hs_w1 H, hs_l1 H, hs_t2 H, hs_r2 H, hs_w2 H, hs_l2 H, hs_t3 H, hs_r3 H, hs_w3 H, hs_l3 H, hs_t14 H, hs_r14 H, hs_w14 H, hs_l14 H, hs_t15 H, hs_r15 H, hs_w15 H, hs_l15 H, hs_ob4 H, hs_g4_0 H, hs_t5 H, hs_r5 H, hs_w5 H, hs_l5 H, hs_g4_1 H, hs_t6 H, hs_r6 H, hs_w6 H, hs_l6 H, hs_g4_2 H, hs_t7 H, hs_r7 H, hs_w7 H, hs_l7 H, hs_g4_3 H, hs_t8 H, hs_r8 H, hs_w8 H, hs_l8 H, hs_ob9 H, hs_g9_0 H, hs_t10 H, hs_r10 H, hs_w10 H, hs_l10 H, hs_g9_1 H, hs_t11 H, hs_r11 H, hs_w11 H, hs_l11 H, hs_g9_2 H, hs_t12 H, hs_r12 H, hs_w12 H, hs_l12 H, hs_g9_3 H, hs_t13 H, hs_r13 H, hs_w13 H, hs_l13 H, hs_ob16 H, hs_g16 H, hs_t17 H, hs_r17 H, hs_w17 H, hs_l17 H, hs_ob5 H, hs_g50 H, hs_g51 H, hs_tu6 H, hs_ru6 H, hs_wu6 H, hs_lu6 H, hs_tu7 H, hs_ru7 H, hs_wu7 H, hs_lu7 H, hu, hc, Option.elim_some]
    · have h3 : cut ρ S y ≤ usd ρ S y := by rw [hlu]; exact hl
      rw [List.find?_cons_of_neg (by unfold hasL; rw [decide_eq_true_eq]; exact hl)]
      simp (disch := omega) only [BH_pageFor_18, gd1, bs1, ↓reduceIte, d_nz, d_nn, or_true, true_or, or_false, false_or, decide_true, Sum.elim_inl, Sum.elim_inr, ↓l_m1, l_0, l_1, l_2, l_3, l_4, l_5, l_6, l_7, l_8, l_9, l_10, l_16, l_17, l_18, l_20, l_23, l_24, l_30, l_31, l_32, l_39, l_40, l_41, l_48, l_57, l_58, l_59, l_60, l_63, l_90, l_97, l_98, l_99, l_100, l_102, l_103, l_104, l_107, l_109, l_112, l_115, l_116, l_117, l_120, l_122, l_126, l_166, l_180, l_240, l_255, l_640, l_999, l_2656, l_3064, l_3704, l_3708, l_3712, l_3713, l_3893, l_155720, l_1000000, n_ltT, n_ltF, n_leT, n_leF, n_eqT, n_eqF, n_eqm, n_eqm', n_mltn, n_mlen, n_nltm, n_nlem, n_mltm, n_mlem, n_add, n_mul, n_sub, n_subm, n_cl, n_ofNat, n_div, n_mod, obM_si, rdI_si, wrI_si, lnI_si, grM_si', tgM_si', obM_sa, rdI_sa, wrI_sa, lnI_sa, grM_sa', tgM_sa', hs_ob H, hs_g0 H, hs_g1 H, hs_g2 H, hs_g3 H, hs_g4 H, hs_g5 H, hs_g6 H, hs_g7 H, hs_g8 H, hs_t1 H, hs_r1 H, hs_w1 H, hs_l1 H, hs_t2 H, hs_r2 H, hs_w2 H, hs_l2 H, hs_t3 H, hs_r3 H, hs_w3 H, hs_l3 H, hs_t14 H, hs_r14 H, hs_w14 H, hs_l14 H, hs_t15 H, hs_r15 H, hs_w15 H, hs_l15 H, hs_ob4 H, hs_g4_0 H, hs_t5 H, hs_r5 H, hs_w5 H, hs_l5 H, hs_g4_1 H, hs_t6 H, hs_r6 H, hs_w6 H, hs_l6 H, hs_g4_2 H, hs_t7 H, hs_r7 H, hs_w7 H, hs_l7 H, hs_g4_3 H, hs_t8 H, hs_r8 H, hs_w8 H, hs_l8 H, hs_ob9 H, hs_g9_0 H, hs_t10 H, hs_r10 H, hs_w10 H, hs_l10 H, hs_g9_1 H, hs_t11 H, hs_r11 H, hs_w11 H, hs_l11 H, hs_g9_2 H, hs_t12 H, hs_r12 H, hs_w12 H, hs_l12 H, hs_g9_3 H, hs_t13 H, hs_r13 H, hs_w13 H, hs_l13 H, hs_ob16 H, hs_g16 H, hs_t17 H, hs_r17 H, hs_w17 H, hs_l17 H, hs_ob5 H, hs_g50 H, hs_g51 H, hs_tu6 H, hs_ru6 H, hs_wu6 H, hs_lu6 H, hs_tu7 H, hs_ru7 H, hs_wu7 H, hs_lu7 H, hu, hc, h2]
theorem pf_123 (C : CC M h ρ β S) (V : Inv ρ β S) (K : Nat → Int32 → Int32 → Int32 → Mem → Option (Int32 × Mem)) (v : Int32) (e : Option Nat) (he : ∀ x, e = some x → x < 16) (hp : p < 16) : BH_pageFor_123 K h v (oN e) (nI p) M = K h v (oN (e.or (if isEm S p = true then some p else none))) (nI (p + 1)) M := by
  have H := C.1
  have hk := cv_k C hp
  have hR := ru_b C.2.2.1
  cases e with
  | none =>
    rw [Option.none_or]
    by_cases h0 : kd S p = 0
    · rw [if_pos (by exact decide_eq_true h0)]
      rw [kI_0 h0] at hk
      simp (disch := omega) only [BH_pageFor_123, BH_pageFor_147, oN, gd1, bs1, ↓reduceIte, d_nz, d_nn, or_true, true_or, or_false, false_or, decide_true, Sum.elim_inl, Sum.elim_inr, ↓l_m1, l_0, l_1, l_2, l_3, l_4, l_5, l_6, l_7, l_8, l_9, l_10, l_16, l_17, l_18, l_20, l_23, l_24, l_30, l_31, l_32, l_39, l_40, l_41, l_48, l_57, l_58, l_59, l_60, l_63, l_90, l_97, l_98, l_99, l_100, l_102, l_103, l_104, l_107, l_109, l_112, l_115, l_116, l_117, l_120, l_122, l_126, l_166, l_180, l_240, l_255, l_640, l_999, l_2656, l_3064, l_3704, l_3708, l_3712, l_3713, l_3893, l_155720, l_1000000, n_ltT, n_ltF, n_leT, n_leF, n_eqT, n_eqF, n_eqm, n_eqm', n_mltn, n_mlen, n_nltm, n_nlem, n_mltm, n_mlem, n_add, n_mul, n_sub, n_subm, n_cl, n_ofNat, n_div, n_mod, obM_si, rdI_si, wrI_si, lnI_si, grM_si', tgM_si', obM_sa, rdI_sa, wrI_sa, lnI_sa, grM_sa', tgM_sa', hs_ob H, hs_g0 H, hs_g1 H, hs_g2 H, hs_g3 H, hs_g4 H, hs_g5 H, hs_g6 H, hs_g7 H, hs_g8 H, hs_t1 H, hs_r1 H, hs_w1 H, hs_l1 H, hs_t2 H, hs_r2 H, hs_w2 H, hs_l2 H, hs_t3 H, hs_r3 H, hs_w3 H, hs_l3 H, hs_t14 H, hs_r14 H, hs_w14 H, hs_l14 H, hs_t15 H, hs_r15 H, hs_w15 H, hs_l15 H, hs_ob4 H, hs_g4_0 H, hs_t5 H, hs_r5 H, hs_w5 H, hs_l5 H, hs_g4_1 H, hs_t6 H, hs_r6 H, hs_w6 H, hs_l6 H, hs_g4_2 H, hs_t7 H, hs_r7 H, hs_w7 H, hs_l7 H, hs_g4_3 H, hs_t8 H, hs_r8 H, hs_w8 H, hs_l8 H, hs_ob9 H, hs_g9_0 H, hs_t10 H, hs_r10 H, hs_w10 H, hs_l10 H, hs_g9_1 H, hs_t11 H, hs_r11 H, hs_w11 H, hs_l11 H, hs_g9_2 H, hs_t12 H, hs_r12 H, hs_w12 H, hs_l12 H, hs_g9_3 H, hs_t13 H, hs_r13 H, hs_w13 H, hs_l13 H, hs_ob16 H, hs_g16 H, hs_t17 H, hs_r17 H, hs_w17 H, hs_l17 H, hs_ob5 H, hs_g50 H, hs_g51 H, hs_tu6 H, hs_ru6 H, hs_wu6 H, hs_lu6 H, hs_tu7 H, hs_ru7 H, hs_wu7 H, hs_lu7 H, hk]
    · rw [if_neg (by unfold isEm; rw [decide_eq_true_eq]; exact h0)]
      rw [kI_n h0] at hk
      have := ((V.1 p hp).2.1 h0).2
      simp (disch := omega) only [BH_pageFor_123, BH_pageFor_147, BH_pageFor_145, oN, gd1, bs1, ↓reduceIte, d_nz, d_nn, or_true, true_or, or_false, false_or, decide_true, Sum.elim_inl, Sum.elim_inr, ↓l_m1, l_0, l_1, l_2, l_3, l_4, l_5, l_6, l_7, l_8, l_9, l_10, l_16, l_17, l_18, l_20, l_23, l_24, l_30, l_31, l_32, l_39, l_40, l_41, l_48, l_57, l_58, l_59, l_60, l_63, l_90, l_97, l_98, l_99, l_100, l_102, l_103, l_104, l_107, l_109, l_112, l_115, l_116, l_117, l_120, l_122, l_126, l_166, l_180, l_240, l_255, l_640, l_999, l_2656, l_3064, l_3704, l_3708, l_3712, l_3713, l_3893, l_155720, l_1000000, n_ltT, n_ltF, n_leT, n_leF, n_eqT, n_eqF, n_eqm, n_eqm', n_mltn, n_mlen, n_nltm, n_nlem, n_mltm, n_mlem, n_add, n_mul, n_sub, n_subm, n_cl, n_ofNat, n_div, n_mod, obM_si, rdI_si, wrI_si, lnI_si, grM_si', tgM_si', obM_sa, rdI_sa, wrI_sa, lnI_sa, grM_sa', tgM_sa', hs_ob H, hs_g0 H, hs_g1 H, hs_g2 H, hs_g3 H, hs_g4 H, hs_g5 H, hs_g6 H, hs_g7 H, hs_g8 H, hs_t1 H, hs_r1 H, hs_w1 H, hs_l1 H, hs_t2 H, hs_r2 H, hs_w2 H, hs_l2 H, hs_t3 H, hs_r3 H, hs_w3 H, hs_l3 H, hs_t14 H, hs_r14 H, hs_w14 H, hs_l14 H, hs_t15 H, hs_r15 H, hs_w15 H, hs_l15 H, hs_ob4 H, hs_g4_0 H, hs_t5 H, hs_r5 H, hs_w5 H, hs_l5 H, hs_g4_1 H, hs_t6 H, hs_r6 H, hs_w6 H, hs_l6 H, hs_g4_2 H, hs_t7 H, hs_r7 H, hs_w7 H, hs_l7 H, hs_g4_3 H, hs_t8 H, hs_r8 H, hs_w8 H, hs_l8 H, hs_ob9 H, hs_g9_0 H, hs_t10 H, hs_r10 H, hs_w10 H, hs_l10 H, hs_g9_1 H, hs_t11 H, hs_r11 H, hs_w11 H, hs_l11 H, hs_g9_2 H, hs_t12 H, hs_r12 H, hs_w12 H, hs_l12 H, hs_g9_3 H, hs_t13 H, hs_r13 H, hs_w13 H, hs_l13 H, hs_ob16 H, hs_g16 H, hs_t17 H, hs_r17 H, hs_w17 H, hs_l17 H, hs_ob5 H, hs_g50 H, hs_g51 H, hs_tu6 H, hs_ru6 H, hs_wu6 H, hs_lu6 H, hs_tu7 H, hs_ru7 H, hs_wu7 H, hs_lu7 H, hk]
  | some x =>
    have := he x rfl
    rw [Option.some_or]
    simp (disch := omega) only [BH_pageFor_123, BH_pageFor_147, BH_pageFor_145, oN, gd1, bs1, ↓reduceIte, d_nz, d_nn, or_true, true_or, or_false, false_or, decide_true, Sum.elim_inl, Sum.elim_inr, ↓l_m1, l_0, l_1, l_2, l_3, l_4, l_5, l_6, l_7, l_8, l_9, l_10, l_16, l_17, l_18, l_20, l_23, l_24, l_30, l_31, l_32, l_39, l_40, l_41, l_48, l_57, l_58, l_59, l_60, l_63, l_90, l_97, l_98, l_99, l_100, l_102, l_103, l_104, l_107, l_109, l_112, l_115, l_116, l_117, l_120, l_122, l_126, l_166, l_180, l_240, l_255, l_640, l_999, l_2656, l_3064, l_3704, l_3708, l_3712, l_3713, l_3893, l_155720, l_1000000, n_ltT, n_ltF, n_leT, n_leF, n_eqT, n_eqF, n_eqm, n_eqm', n_mltn, n_mlen, n_nltm, n_nlem, n_mltm, n_mlem, n_add, n_mul, n_sub, n_subm, n_cl, n_ofNat, n_div, n_mod, obM_si, rdI_si, wrI_si, lnI_si, grM_si', tgM_si', obM_sa, rdI_sa, wrI_sa, lnI_sa, grM_sa', tgM_sa']
theorem pf_loop2 (C : CC M h ρ β S) (V : Inv ρ β S) (hc : c < rK ρ) : ∀ (k f i : Nat) (e : Option Nat), (∀ x, e = some x → x < 16) → i + k = rP ρ → k < f → LH_pageFor_68 f h (nI c) (oN e) (nI i) M = some (oN ((lo (isAd c S) i k).or (e.or (lo (isEm S) i k))), M) := by
  have H := C.1
  have R := C.2.1
  have hR := ru_b C.2.2.1
  intro k
  induction k with
  | zero =>
    intro f i e _ hi hf
    obtain ⟨g, rfl⟩ : ∃ g, f = g + 1 := ⟨f - 1, by omega⟩
    show BH_pageFor_68 (LH_pageFor_68 g) h (nI c) (oN e) (nI i) M = _
    unfold lo
    rw [Option.none_or, Option.or_none]
    simp (disch := omega) only [BH_pageFor_68, gd1, bs1, ↓reduceIte, d_nz, d_nn, or_true, true_or, or_false, false_or, decide_true, Sum.elim_inl, Sum.elim_inr, ↓l_m1, l_0, l_1, l_2, l_3, l_4, l_5, l_6, l_7, l_8, l_9, l_10, l_16, l_17, l_18, l_20, l_23, l_24, l_30, l_31, l_32, l_39, l_40, l_41, l_48, l_57, l_58, l_59, l_60, l_63, l_90, l_97, l_98, l_99, l_100, l_102, l_103, l_104, l_107, l_109, l_112, l_115, l_116, l_117, l_120, l_122, l_126, l_166, l_180, l_240, l_255, l_640, l_999, l_2656, l_3064, l_3704, l_3708, l_3712, l_3713, l_3893, l_155720, l_1000000, n_ltT, n_ltF, n_leT, n_leF, n_eqT, n_eqF, n_eqm, n_eqm', n_mltn, n_mlen, n_nltm, n_nlem, n_mltm, n_mlem, n_add, n_mul, n_sub, n_subm, n_cl, n_ofNat, n_div, n_mod, obM_si, rdI_si, wrI_si, lnI_si, grM_si', tgM_si', obM_sa, rdI_sa, wrI_sa, lnI_sa, grM_sa', tgM_sa', hs_ob H, hs_g0 H, hs_g1 H, hs_g2 H, hs_g3 H, hs_g4 H, hs_g5 H, hs_g6 H, hs_g7 H, hs_g8 H, hs_t1 H, hs_r1 H, hs_w1 H, hs_l1 H, hs_t2 H, hs_r2 H, hs_w2 H, hs_l2 H, hs_t3 H, hs_r3 H, hs_w3 H, hs_l3 H, hs_t14 H, hs_r14 H, hs_w14 H, hs_l14 H, hs_t15 H, hs_r15 H, hs_w15 H, hs_l15 H, hs_ob4 H, hs_g4_0 H, hs_t5 H, hs_r5 H, hs_w5 H, hs_l5 H, hs_g4_1 H, hs_t6 H, hs_r6 H, hs_w6 H, hs_l6 H, hs_g4_2 H, hs_t7 H, hs_r7 H, hs_w7 H, hs_l7 H, hs_g4_3 H, hs_t8 H, hs_r8 H, hs_w8 H, hs_l8 H, hs_ob9 H, hs_g9_0 H, hs_t10 H, hs_r10 H, hs_w10 H, hs_l10 H, hs_g9_1 H, hs_t11 H, hs_r11 H, hs_w11 H, hs_l11 H, hs_g9_2 H, hs_t12 H, hs_r12 H, hs_w12 H, hs_l12 H, hs_g9_3 H, hs_t13 H, hs_r13 H, hs_w13 H, hs_l13 H, hs_ob16 H, hs_g16 H, hs_t17 H, hs_r17 H, hs_w17 H, hs_l17 H, hs_ob5 H, hs_g50 H, hs_g51 H, hs_tu6 H, hs_ru6 H, hs_wu6 H, hs_lu6 H, hs_tu7 H, hs_ru7 H, hs_wu7 H, hs_lu7 H, rc_T R, rc_P R, rc_U R, rc_B R, rc_H R, rc_K R]
  | succ k ih =>
    intro f i e he hi hf
    obtain ⟨g, rfl⟩ : ∃ g, f = g + 1 := ⟨f - 1, by omega⟩
    have hi16 : i < 16 := by omega
    have hk := cv_k C hi16
    have ho := cv_o C hi16
    have hu := usedOf_ok C V hi16
    have hcc := cv_c C hi16
    have hc2 := cut_le C.2.2.1 V.1 hi16
    have hu2 := usd_le C.2.2.1 V hi16
    have hlu := lu V hi16
    obtain ⟨v1, v2, v3, v4⟩ := V.1 i hi16
    show BH_pageFor_68 (LH_pageFor_68 g) h (nI c) (oN e) (nI i) M = _
    by_cases ha : kd S i = 3 ∧ cl S i = c ∧ 0 < lst S i
    · have h3 : usd ρ S i < cut ρ S i := by
        rw [eq_true ha.2.2, not_true] at hlu
        have := of_eq_false hlu
        omega
      rw [kI_n (by omega), ha.2.1] at hk
      rw [oI_m (by omega)] at ho
      rw [show lo (isAd c S) i (k + 1) = some i from if_pos (decide_eq_true ha), Option.some_or]
      simp (disch := omega) only [BH_pageFor_68, oN, gd1, bs1, ↓reduceIte, d_nz, d_nn, or_true, true_or, or_false, false_or, decide_true, Sum.elim_inl, Sum.elim_inr, ↓l_m1, l_0, l_1, l_2, l_3, l_4, l_5, l_6, l_7, l_8, l_9, l_10, l_16, l_17, l_18, l_20, l_23, l_24, l_30, l_31, l_32, l_39, l_40, l_41, l_48, l_57, l_58, l_59, l_60, l_63, l_90, l_97, l_98, l_99, l_100, l_102, l_103, l_104, l_107, l_109, l_112, l_115, l_116, l_117, l_120, l_122, l_126, l_166, l_180, l_240, l_255, l_640, l_999, l_2656, l_3064, l_3704, l_3708, l_3712, l_3713, l_3893, l_155720, l_1000000, n_ltT, n_ltF, n_leT, n_leF, n_eqT, n_eqF, n_eqm, n_eqm', n_mltn, n_mlen, n_nltm, n_nlem, n_mltm, n_mlem, n_add, n_mul, n_sub, n_subm, n_cl, n_ofNat, n_div, n_mod, obM_si, rdI_si, wrI_si, lnI_si, grM_si', tgM_si', obM_sa, rdI_sa, wrI_sa, lnI_sa, grM_sa', tgM_sa', hs_ob H, hs_g0 H, hs_g1 H, hs_g2 H, hs_g3 H, hs_g4 H, hs_g5 H, hs_g6 H, hs_g7 H, hs_g8 H, hs_t1 H, hs_r1 H, hs_w1 H, hs_l1 H, hs_t2 H, hs_r2 H, hs_w2 H, hs_l2 H, hs_t3 H, hs_r3 H, hs_w3 H, hs_l3 H, hs_t14 H, hs_r14 H, hs_w14 H, hs_l14 H, hs_t15 H, hs_r15 H, hs_w15 H, hs_l15 H, hs_ob4 H, hs_g4_0 H, hs_t5 H, hs_r5 H, hs_w5 H, hs_l5 H, hs_g4_1 H, hs_t6 H, hs_r6 H, hs_w6 H, hs_l6 H, hs_g4_2 H, hs_t7 H, hs_r7 H, hs_w7 H, hs_l7 H, hs_g4_3 H, hs_t8 H, hs_r8 H, hs_w8 H, hs_l8 H, hs_ob9 H, hs_g9_0 H, hs_t10 H, hs_r10 H, hs_w10 H, hs_l10 H, hs_g9_1 H, hs_t11 H, hs_r11 H, hs_w11 H, hs_l11 H, hs_g9_2 H, hs_t12 H, hs_r12 H, hs_w12 H, hs_l12 H, hs_g9_3 H, hs_t13 H, hs_r13 H, hs_w13 H, hs_l13 H, hs_ob16 H, hs_g16 H, hs_t17 H, hs_r17 H, hs_w17 H, hs_l17 H, hs_ob5 H, hs_g50 H, hs_g51 H, hs_tu6 H, hs_ru6 H, hs_wu6 H, hs_lu6 H, hs_tu7 H, hs_ru7 H, hs_wu7 H, hs_lu7 H, rc_T R, rc_P R, rc_U R, rc_B R, rc_H R, rc_K R, hk, ho, hu, hcc]
    · have e1 : lo (isAd c S) i (k + 1) = lo (isAd c S) (i + 1) k := if_neg (by unfold isAd; rw [decide_eq_true_eq]; exact ha)
      have e2 : e.or (lo (isEm S) i (k + 1)) = (e.or (if isEm S i = true then some i else none)).or (lo (isEm S) (i + 1) k) := by
        rw [show lo (isEm S) i (k + 1) = if isEm S i = true then some i else lo (isEm S) (i + 1) k from rfl, Option.or_assoc]
        by_cases hm : isEm S i = true
        · rw [if_pos hm, if_pos hm, Option.some_or]
        · rw [if_neg hm, if_neg hm, Option.none_or]
      have h5 := ih g (i + 1) (e.or (if isEm S i = true then some i else none)) (fun x hx => by
        cases e with
        | some y => exact he x hx
        | none =>
          rw [Option.none_or] at hx
          by_cases hm : isEm S i = true
          · rw [if_pos hm] at hx
            obtain rfl := Option.some.inj hx
            exact hi16
          · rw [if_neg hm] at hx
            cases hx) (by omega) (by omega)
      have h4 := (pf_123 C V (LH_pageFor_68 g) (nI c) e he hi16).trans h5
      rw [e1, e2]
      by_cases h0 : kd S i = 0
      · rw [kI_0 h0] at hk
        simp (disch := omega) only [BH_pageFor_68, gd1, bs1, ↓reduceIte, d_nz, d_nn, or_true, true_or, or_false, false_or, decide_true, Sum.elim_inl, Sum.elim_inr, ↓l_m1, l_0, l_1, l_2, l_3, l_4, l_5, l_6, l_7, l_8, l_9, l_10, l_16, l_17, l_18, l_20, l_23, l_24, l_30, l_31, l_32, l_39, l_40, l_41, l_48, l_57, l_58, l_59, l_60, l_63, l_90, l_97, l_98, l_99, l_100, l_102, l_103, l_104, l_107, l_109, l_112, l_115, l_116, l_117, l_120, l_122, l_126, l_166, l_180, l_240, l_255, l_640, l_999, l_2656, l_3064, l_3704, l_3708, l_3712, l_3713, l_3893, l_155720, l_1000000, n_ltT, n_ltF, n_leT, n_leF, n_eqT, n_eqF, n_eqm, n_eqm', n_mltn, n_mlen, n_nltm, n_nlem, n_mltm, n_mlem, n_add, n_mul, n_sub, n_subm, n_cl, n_ofNat, n_div, n_mod, obM_si, rdI_si, wrI_si, lnI_si, grM_si', tgM_si', obM_sa, rdI_sa, wrI_sa, lnI_sa, grM_sa', tgM_sa', hs_ob H, hs_g0 H, hs_g1 H, hs_g2 H, hs_g3 H, hs_g4 H, hs_g5 H, hs_g6 H, hs_g7 H, hs_g8 H, hs_t1 H, hs_r1 H, hs_w1 H, hs_l1 H, hs_t2 H, hs_r2 H, hs_w2 H, hs_l2 H, hs_t3 H, hs_r3 H, hs_w3 H, hs_l3 H, hs_t14 H, hs_r14 H, hs_w14 H, hs_l14 H, hs_t15 H, hs_r15 H, hs_w15 H, hs_l15 H, hs_ob4 H, hs_g4_0 H, hs_t5 H, hs_r5 H, hs_w5 H, hs_l5 H, hs_g4_1 H, hs_t6 H, hs_r6 H, hs_w6 H, hs_l6 H, hs_g4_2 H, hs_t7 H, hs_r7 H, hs_w7 H, hs_l7 H, hs_g4_3 H, hs_t8 H, hs_r8 H, hs_w8 H, hs_l8 H, hs_ob9 H, hs_g9_0 H, hs_t10 H, hs_r10 H, hs_w10 H, hs_l10 H, hs_g9_1 H, hs_t11 H, hs_r11 H, hs_w11 H, hs_l11 H, hs_g9_2 H, hs_t12 H, hs_r12 H, hs_w12 H, hs_l12 H, hs_g9_3 H, hs_t13 H, hs_r13 H, hs_w13 H, hs_l13 H, hs_ob16 H, hs_g16 H, hs_t17 H, hs_r17 H, hs_w17 H, hs_l17 H, hs_ob5 H, hs_g50 H, hs_g51 H, hs_tu6 H, hs_ru6 H, hs_wu6 H, hs_lu6 H, hs_tu7 H, hs_ru7 H, hs_wu7 H, hs_lu7 H, rc_T R, rc_P R, rc_U R, rc_B R, rc_H R, rc_K R, hk, h4]
      · rw [kI_n h0] at hk
        have hcl := (v2 h0).2
        by_cases h6 : cl S i = c
        · rw [h6] at hk
          by_cases h7 : kd S i = 3
          · rw [oI_m (by omega)] at ho
            have h8 : cut ρ S i ≤ usd ρ S i := by
              rw [hlu]
              exact fun q => ha ⟨h7, h6, q⟩
            simp (disch := omega) only [BH_pageFor_68, gd1, bs1, ↓reduceIte, d_nz, d_nn, or_true, true_or, or_false, false_or, decide_true, Sum.elim_inl, Sum.elim_inr, ↓l_m1, l_0, l_1, l_2, l_3, l_4, l_5, l_6, l_7, l_8, l_9, l_10, l_16, l_17, l_18, l_20, l_23, l_24, l_30, l_31, l_32, l_39, l_40, l_41, l_48, l_57, l_58, l_59, l_60, l_63, l_90, l_97, l_98, l_99, l_100, l_102, l_103, l_104, l_107, l_109, l_112, l_115, l_116, l_117, l_120, l_122, l_126, l_166, l_180, l_240, l_255, l_640, l_999, l_2656, l_3064, l_3704, l_3708, l_3712, l_3713, l_3893, l_155720, l_1000000, n_ltT, n_ltF, n_leT, n_leF, n_eqT, n_eqF, n_eqm, n_eqm', n_mltn, n_mlen, n_nltm, n_nlem, n_mltm, n_mlem, n_add, n_mul, n_sub, n_subm, n_cl, n_ofNat, n_div, n_mod, obM_si, rdI_si, wrI_si, lnI_si, grM_si', tgM_si', obM_sa, rdI_sa, wrI_sa, lnI_sa, grM_sa', tgM_sa', hs_ob H, hs_g0 H, hs_g1 H, hs_g2 H, hs_g3 H, hs_g4 H, hs_g5 H, hs_g6 H, hs_g7 H, hs_g8 H, hs_t1 H, hs_r1 H, hs_w1 H, hs_l1 H, hs_t2 H, hs_r2 H, hs_w2 H, hs_l2 H, hs_t3 H, hs_r3 H, hs_w3 H, hs_l3 H, hs_t14 H, hs_r14 H, hs_w14 H, hs_l14 H, hs_t15 H, hs_r15 H, hs_w15 H, hs_l15 H, hs_ob4 H, hs_g4_0 H, hs_t5 H, hs_r5 H, hs_w5 H, hs_l5 H, hs_g4_1 H, hs_t6 H, hs_r6 H, hs_w6 H, hs_l6 H, hs_g4_2 H, hs_t7 H, hs_r7 H, hs_w7 H, hs_l7 H, hs_g4_3 H, hs_t8 H, hs_r8 H, hs_w8 H, hs_l8 H, hs_ob9 H, hs_g9_0 H, hs_t10 H, hs_r10 H, hs_w10 H, hs_l10 H, hs_g9_1 H, hs_t11 H, hs_r11 H, hs_w11 H, hs_l11 H, hs_g9_2 H, hs_t12 H, hs_r12 H, hs_w12 H, hs_l12 H, hs_g9_3 H, hs_t13 H, hs_r13 H, hs_w13 H, hs_l13 H, hs_ob16 H, hs_g16 H, hs_t17 H, hs_r17 H, hs_w17 H, hs_l17 H, hs_ob5 H, hs_g50 H, hs_g51 H, hs_tu6 H, hs_ru6 H, hs_wu6 H, hs_lu6 H, hs_tu7 H, hs_ru7 H, hs_wu7 H, hs_lu7 H, rc_T R, rc_P R, rc_U R, rc_B R, rc_H R, rc_K R, hk, ho, hu, hcc, h4]
          · rw [oI_n (by omega)] at ho
            have := v3 (by omega)
            simp (disch := omega) only [BH_pageFor_68, gd1, bs1, ↓reduceIte, d_nz, d_nn, or_true, true_or, or_false, false_or, decide_true, Sum.elim_inl, Sum.elim_inr, ↓l_m1, l_0, l_1, l_2, l_3, l_4, l_5, l_6, l_7, l_8, l_9, l_10, l_16, l_17, l_18, l_20, l_23, l_24, l_30, l_31, l_32, l_39, l_40, l_41, l_48, l_57, l_58, l_59, l_60, l_63, l_90, l_97, l_98, l_99, l_100, l_102, l_103, l_104, l_107, l_109, l_112, l_115, l_116, l_117, l_120, l_122, l_126, l_166, l_180, l_240, l_255, l_640, l_999, l_2656, l_3064, l_3704, l_3708, l_3712, l_3713, l_3893, l_155720, l_1000000, n_ltT, n_ltF, n_leT, n_leF, n_eqT, n_eqF, n_eqm, n_eqm', n_mltn, n_mlen, n_nltm, n_nlem, n_mltm, n_mlem, n_add, n_mul, n_sub, n_subm, n_cl, n_ofNat, n_div, n_mod, obM_si, rdI_si, wrI_si, lnI_si, grM_si', tgM_si', obM_sa, rdI_sa, wrI_sa, lnI_sa, grM_sa', tgM_sa', hs_ob H, hs_g0 H, hs_g1 H, hs_g2 H, hs_g3 H, hs_g4 H, hs_g5 H, hs_g6 H, hs_g7 H, hs_g8 H, hs_t1 H, hs_r1 H, hs_w1 H, hs_l1 H, hs_t2 H, hs_r2 H, hs_w2 H, hs_l2 H, hs_t3 H, hs_r3 H, hs_w3 H, hs_l3 H, hs_t14 H, hs_r14 H, hs_w14 H, hs_l14 H, hs_t15 H, hs_r15 H, hs_w15 H, hs_l15 H, hs_ob4 H, hs_g4_0 H, hs_t5 H, hs_r5 H, hs_w5 H, hs_l5 H, hs_g4_1 H, hs_t6 H, hs_r6 H, hs_w6 H, hs_l6 H, hs_g4_2 H, hs_t7 H, hs_r7 H, hs_w7 H, hs_l7 H, hs_g4_3 H, hs_t8 H, hs_r8 H, hs_w8 H, hs_l8 H, hs_ob9 H, hs_g9_0 H, hs_t10 H, hs_r10 H, hs_w10 H, hs_l10 H, hs_g9_1 H, hs_t11 H, hs_r11 H, hs_w11 H, hs_l11 H, hs_g9_2 H, hs_t12 H, hs_r12 H, hs_w12 H, hs_l12 H, hs_g9_3 H, hs_t13 H, hs_r13 H, hs_w13 H, hs_l13 H, hs_ob16 H, hs_g16 H, hs_t17 H, hs_r17 H, hs_w17 H, hs_l17 H, hs_ob5 H, hs_g50 H, hs_g51 H, hs_tu6 H, hs_ru6 H, hs_wu6 H, hs_lu6 H, hs_tu7 H, hs_ru7 H, hs_wu7 H, hs_lu7 H, rc_T R, rc_P R, rc_U R, rc_B R, rc_H R, rc_K R, hk, ho, h4]
        · simp (disch := omega) only [BH_pageFor_68, gd1, bs1, ↓reduceIte, d_nz, d_nn, or_true, true_or, or_false, false_or, decide_true, Sum.elim_inl, Sum.elim_inr, ↓l_m1, l_0, l_1, l_2, l_3, l_4, l_5, l_6, l_7, l_8, l_9, l_10, l_16, l_17, l_18, l_20, l_23, l_24, l_30, l_31, l_32, l_39, l_40, l_41, l_48, l_57, l_58, l_59, l_60, l_63, l_90, l_97, l_98, l_99, l_100, l_102, l_103, l_104, l_107, l_109, l_112, l_115, l_116, l_117, l_120, l_122, l_126, l_166, l_180, l_240, l_255, l_640, l_999, l_2656, l_3064, l_3704, l_3708, l_3712, l_3713, l_3893, l_155720, l_1000000, n_ltT, n_ltF, n_leT, n_leF, n_eqT, n_eqF, n_eqm, n_eqm', n_mltn, n_mlen, n_nltm, n_nlem, n_mltm, n_mlem, n_add, n_mul, n_sub, n_subm, n_cl, n_ofNat, n_div, n_mod, obM_si, rdI_si, wrI_si, lnI_si, grM_si', tgM_si', obM_sa, rdI_sa, wrI_sa, lnI_sa, grM_sa', tgM_sa', hs_ob H, hs_g0 H, hs_g1 H, hs_g2 H, hs_g3 H, hs_g4 H, hs_g5 H, hs_g6 H, hs_g7 H, hs_g8 H, hs_t1 H, hs_r1 H, hs_w1 H, hs_l1 H, hs_t2 H, hs_r2 H, hs_w2 H, hs_l2 H, hs_t3 H, hs_r3 H, hs_w3 H, hs_l3 H, hs_t14 H, hs_r14 H, hs_w14 H, hs_l14 H, hs_t15 H, hs_r15 H, hs_w15 H, hs_l15 H, hs_ob4 H, hs_g4_0 H, hs_t5 H, hs_r5 H, hs_w5 H, hs_l5 H, hs_g4_1 H, hs_t6 H, hs_r6 H, hs_w6 H, hs_l6 H, hs_g4_2 H, hs_t7 H, hs_r7 H, hs_w7 H, hs_l7 H, hs_g4_3 H, hs_t8 H, hs_r8 H, hs_w8 H, hs_l8 H, hs_ob9 H, hs_g9_0 H, hs_t10 H, hs_r10 H, hs_w10 H, hs_l10 H, hs_g9_1 H, hs_t11 H, hs_r11 H, hs_w11 H, hs_l11 H, hs_g9_2 H, hs_t12 H, hs_r12 H, hs_w12 H, hs_l12 H, hs_g9_3 H, hs_t13 H, hs_r13 H, hs_w13 H, hs_l13 H, hs_ob16 H, hs_g16 H, hs_t17 H, hs_r17 H, hs_w17 H, hs_l17 H, hs_ob5 H, hs_g50 H, hs_g51 H, hs_tu6 H, hs_ru6 H, hs_wu6 H, hs_lu6 H, hs_tu7 H, hs_ru7 H, hs_wu7 H, hs_lu7 H, rc_T R, rc_P R, rc_U R, rc_B R, rc_H R, rc_K R, hk, h4]
theorem pageFor_ok (C : CC M h ρ β S) (V : Inv ρ β S) (ht : t < rT ρ) (hc : c < rK ρ) : fH_pageFor h (nI t) (nI c) M = some (oN (pgF ρ t c S), M) := by
  have H := C.1
  have hR := ru_b C.2.2.1
  have hq : 6 * t + c < 24 := by omega
  have hql := qlen V hq
  have h1 := pf_loop1 C V (nI c) (qu S (6 * t + c)) 1000000 0 _ (cv_Q C _ hq).1 (fun p hp => ((cv_Q C _ hq).2.2.2 p hp).1) (by omega) (by omega)
  have h2 := pf_loop2 C V hc (rP ρ) 1000000 0 none (fun x hx => by cases hx) (by omega) (by omega)
  unfold pgF
  cases e : (qu S (6 * t + c)).find? (hasL S) with
  | some p =>
    rw [e] at h1
    rw [Option.some_or]
    simp (disch := omega) only [fH_pageFor, fH_queueOf, oN, gd1, bs1, ↓reduceIte, d_nz, d_nn, or_true, true_or, or_false, false_or, decide_true, Sum.elim_inl, Sum.elim_inr, ↓l_m1, l_0, l_1, l_2, l_3, l_4, l_5, l_6, l_7, l_8, l_9, l_10, l_16, l_17, l_18, l_20, l_23, l_24, l_30, l_31, l_32, l_39, l_40, l_41, l_48, l_57, l_58, l_59, l_60, l_63, l_90, l_97, l_98, l_99, l_100, l_102, l_103, l_104, l_107, l_109, l_112, l_115, l_116, l_117, l_120, l_122, l_126, l_166, l_180, l_240, l_255, l_640, l_999, l_2656, l_3064, l_3704, l_3708, l_3712, l_3713, l_3893, l_155720, l_1000000, n_ltT, n_ltF, n_leT, n_leF, n_eqT, n_eqF, n_eqm, n_eqm', n_mltn, n_mlen, n_nltm, n_nlem, n_mltm, n_mlem, n_add, n_mul, n_sub, n_subm, n_cl, n_ofNat, n_div, n_mod, obM_si, rdI_si, wrI_si, lnI_si, grM_si', tgM_si', obM_sa, rdI_sa, wrI_sa, lnI_sa, grM_sa', tgM_sa', hs_ob H, hs_g0 H, hs_g1 H, hs_g2 H, hs_g3 H, hs_g4 H, hs_g5 H, hs_g6 H, hs_g7 H, hs_g8 H, hs_t1 H, hs_r1 H, hs_w1 H, hs_l1 H, hs_t2 H, hs_r2 H, hs_w2 H, hs_l2 H, hs_t3 H, hs_r3 H, hs_w3 H, hs_l3 H, hs_t14 H, hs_r14 H, hs_w14 H, hs_l14 H, hs_t15 H, hs_r15 H, hs_w15 H, hs_l15 H, hs_ob4 H, hs_g4_0 H, hs_t5 H, hs_r5 H, hs_w5 H, hs_l5 H, hs_g4_1 H, hs_t6 H, hs_r6 H, hs_w6 H, hs_l6 H, hs_g4_2 H, hs_t7 H, hs_r7 H, hs_w7 H, hs_l7 H, hs_g4_3 H, hs_t8 H, hs_r8 H, hs_w8 H, hs_l8 H, hs_ob9 H, hs_g9_0 H, hs_t10 H, hs_r10 H, hs_w10 H, hs_l10 H, hs_g9_1 H, hs_t11 H, hs_r11 H, hs_w11 H, hs_l11 H, hs_g9_2 H, hs_t12 H, hs_r12 H, hs_w12 H, hs_l12 H, hs_g9_3 H, hs_t13 H, hs_r13 H, hs_w13 H, hs_l13 H, hs_ob16 H, hs_g16 H, hs_t17 H, hs_r17 H, hs_w17 H, hs_l17 H, hs_ob5 H, hs_g50 H, hs_g51 H, hs_tu6 H, hs_ru6 H, hs_wu6 H, hs_lu6 H, hs_tu7 H, hs_ru7 H, hs_wu7 H, hs_lu7 H, mul3, mul6, mul16, mul40, mul100, Nat.add_zero, h1, Option.elim_some]
  | none =>
    rw [e] at h1
    rw [Option.none_or]
    rw [Option.none_or] at h2
    have h2 : LH_pageFor_68 1000000 h (nI c) mI (nI 0) M = _ := h2
    simp (disch := omega) only [fH_pageFor, fH_queueOf, BH_pageFor_62, gd1, bs1, ↓reduceIte, d_nz, d_nn, or_true, true_or, or_false, false_or, decide_true, Sum.elim_inl, Sum.elim_inr, ↓l_m1, l_0, l_1, l_2, l_3, l_4, l_5, l_6, l_7, l_8, l_9, l_10, l_16, l_17, l_18, l_20, l_23, l_24, l_30, l_31, l_32, l_39, l_40, l_41, l_48, l_57, l_58, l_59, l_60, l_63, l_90, l_97, l_98, l_99, l_100, l_102, l_103, l_104, l_107, l_109, l_112, l_115, l_116, l_117, l_120, l_122, l_126, l_166, l_180, l_240, l_255, l_640, l_999, l_2656, l_3064, l_3704, l_3708, l_3712, l_3713, l_3893, l_155720, l_1000000, n_ltT, n_ltF, n_leT, n_leF, n_eqT, n_eqF, n_eqm, n_eqm', n_mltn, n_mlen, n_nltm, n_nlem, n_mltm, n_mlem, n_add, n_mul, n_sub, n_subm, n_cl, n_ofNat, n_div, n_mod, obM_si, rdI_si, wrI_si, lnI_si, grM_si', tgM_si', obM_sa, rdI_sa, wrI_sa, lnI_sa, grM_sa', tgM_sa', hs_ob H, hs_g0 H, hs_g1 H, hs_g2 H, hs_g3 H, hs_g4 H, hs_g5 H, hs_g6 H, hs_g7 H, hs_g8 H, hs_t1 H, hs_r1 H, hs_w1 H, hs_l1 H, hs_t2 H, hs_r2 H, hs_w2 H, hs_l2 H, hs_t3 H, hs_r3 H, hs_w3 H, hs_l3 H, hs_t14 H, hs_r14 H, hs_w14 H, hs_l14 H, hs_t15 H, hs_r15 H, hs_w15 H, hs_l15 H, hs_ob4 H, hs_g4_0 H, hs_t5 H, hs_r5 H, hs_w5 H, hs_l5 H, hs_g4_1 H, hs_t6 H, hs_r6 H, hs_w6 H, hs_l6 H, hs_g4_2 H, hs_t7 H, hs_r7 H, hs_w7 H, hs_l7 H, hs_g4_3 H, hs_t8 H, hs_r8 H, hs_w8 H, hs_l8 H, hs_ob9 H, hs_g9_0 H, hs_t10 H, hs_r10 H, hs_w10 H, hs_l10 H, hs_g9_1 H, hs_t11 H, hs_r11 H, hs_w11 H, hs_l11 H, hs_g9_2 H, hs_t12 H, hs_r12 H, hs_w12 H, hs_l12 H, hs_g9_3 H, hs_t13 H, hs_r13 H, hs_w13 H, hs_l13 H, hs_ob16 H, hs_g16 H, hs_t17 H, hs_r17 H, hs_w17 H, hs_l17 H, hs_ob5 H, hs_g50 H, hs_g51 H, hs_tu6 H, hs_ru6 H, hs_wu6 H, hs_lu6 H, hs_tu7 H, hs_ru7 H, hs_wu7 H, hs_lu7 H, mul3, mul6, mul16, mul40, mul100, Nat.add_zero, h1, h2, Option.elim_none]
/-- what is known of the page that a get is served from -/
theorem pgF_cases (hR : RuOK ρ) (V : Inv ρ β S) (ht : t < rT ρ) (hc : c < rK ρ) (e : pgF ρ t c S = some p) : p < rP ρ ∧ ((kd S p = 0 ∧ gPre t c S = qu S (6 * t + c)) ∨ (kd S p = 3 ∧ cl S p = c ∧ 0 < lst S p ∧ gPre t c S = qu S (6 * t + c)) ∨ (kd S p = 1 ∧ ow S p = t ∧ cl S p = c ∧ 0 < lst S p ∧ ∃ ys, qu S (6 * t + c) = gPre t c S ++ p :: ys)) := by
  have hb := ru_b hR
  have hq : 6 * t + c < 24 := by omega
  have tw : ∀ xs : List Nat, xs.find? (hasL S) = none → xs.takeWhile (fun x => !hasL S x) = xs := by
    intro xs
    induction xs with
    | nil => intro _; rfl
    | cons y ys ih =>
      intro hn
      have h1 := List.find?_eq_none.mp hn y List.mem_cons_self
      rw [List.takeWhile_cons_of_pos (by simpa using h1), ih (List.find?_eq_none.mpr (fun x hx => List.find?_eq_none.mp hn x (List.mem_cons_of_mem _ hx)))]
  have tw2 : ∀ xs : List Nat, xs.find? (hasL S) = some p → ∃ ys, xs = xs.takeWhile (fun x => !hasL S x) ++ p :: ys := by
    intro xs
    induction xs with
    | nil => intro hn; cases hn
    | cons y ys ih =>
      intro hn
      by_cases h1 : hasL S y = true
      · rw [List.find?_cons_of_pos h1] at hn
        obtain rfl := Option.some.inj hn
        exact ⟨ys, by rw [List.takeWhile_cons_of_neg (by simpa using h1)]; rfl⟩
      · rw [List.find?_cons_of_neg h1] at hn
        obtain ⟨zs, hz⟩ := ih hn
        refine ⟨zs, ?_⟩
        rw [List.takeWhile_cons_of_pos (by simpa using h1), List.cons_append, ← hz]
  unfold pgF at e
  cases e1 : (qu S (6 * t + c)).find? (hasL S) with
  | some x =>
    rw [e1, Option.some_or] at e
    obtain rfl := Option.some.inj e
    have h1 := List.mem_of_find?_eq_some e1
    have h2 := List.find?_some e1
    obtain ⟨h3, h4, h5⟩ := ((V.2.2.1 _ hq).2 x).mp h1
    have h6 := (V.1 x h3).2.1 (by omega)
    have h7 := (V.1 x h3).2.2.1 (by omega)
    obtain ⟨hx1, hx2⟩ : ow S x = t ∧ cl S x = c := by omega
    exact ⟨h6.1, Or.inr (Or.inr ⟨h4, hx1, hx2, of_decide_eq_true h2, tw2 _ e1⟩)⟩
  | none =>
    rw [e1, Option.none_or] at e
    cases e2 : lo (isAd c S) 0 (rP ρ) with
    | some x =>
      rw [e2, Option.some_or] at e
      obtain rfl := Option.some.inj e
      obtain ⟨-, h1, h2⟩ := lo_spec e2
      have h2 := of_decide_eq_true h2
      exact ⟨by omega, Or.inr (Or.inl ⟨h2.1, h2.2.1, h2.2.2, tw _ e1⟩)⟩
    | none =>
      rw [e2, Option.none_or] at e
      obtain ⟨-, h1, h2⟩ := lo_spec e
      have h2 := of_decide_eq_true h2
      exact ⟨by omega, Or.inl ⟨h2, tw _ e1⟩⟩
theorem how_ok (C : CC M h ρ β S) (V : Inv ρ β S) (ht : t < rT ρ) (hp : p < rP ρ) (hk : kd S p = 0 ∨ kd S p = 3 ∨ (kd S p = 1 ∧ ow S p = t)) : fH_howFrom h (nI t) (nI p) M = some (nI (hwF t p S), M) := by
  have H := C.1
  have hR := ru_b C.2.2.1
  have hp16 : p < 16 := by omega
  have hP := isPage_T C hp
  have hkk := cv_k C hp16
  have hoo := cv_o C hp16
  have l0 := lengthOf_ok (w := 0) C hp16 (by omega)
  have l1 := lengthOf_ok (w := 1) C hp16 (by omega)
  have k0 := bl_len C.2.2.1 V (l := 3 * p) (by omega)
  have k1 := bl_len C.2.2.1 V (l := 3 * p + 1) (by omega)
  rw [Nat.add_zero] at l0
  unfold hwF
  rcases hk with h0 | h0 | ⟨h0, h1⟩
  · rw [if_pos h0]
    rw [kI_0 h0] at hkk
    simp (disch := omega) only [fH_howFrom, gd1, bs1, ↓reduceIte, d_nz, d_nn, or_true, true_or, or_false, false_or, decide_true, Sum.elim_inl, Sum.elim_inr, ↓l_m1, l_0, l_1, l_2, l_3, l_4, l_5, l_6, l_7, l_8, l_9, l_10, l_16, l_17, l_18, l_20, l_23, l_24, l_30, l_31, l_32, l_39, l_40, l_41, l_48, l_57, l_58, l_59, l_60, l_63, l_90, l_97, l_98, l_99, l_100, l_102, l_103, l_104, l_107, l_109, l_112, l_115, l_116, l_117, l_120, l_122, l_126, l_166, l_180, l_240, l_255, l_640, l_999, l_2656, l_3064, l_3704, l_3708, l_3712, l_3713, l_3893, l_155720, l_1000000, n_ltT, n_ltF, n_leT, n_leF, n_eqT, n_eqF, n_eqm, n_eqm', n_mltn, n_mlen, n_nltm, n_nlem, n_mltm, n_mlem, n_add, n_mul, n_sub, n_subm, n_cl, n_ofNat, n_div, n_mod, obM_si, rdI_si, wrI_si, lnI_si, grM_si', tgM_si', obM_sa, rdI_sa, wrI_sa, lnI_sa, grM_sa', tgM_sa', hs_ob H, hs_g0 H, hs_g1 H, hs_g2 H, hs_g3 H, hs_g4 H, hs_g5 H, hs_g6 H, hs_g7 H, hs_g8 H, hs_t1 H, hs_r1 H, hs_w1 H, hs_l1 H, hs_t2 H, hs_r2 H, hs_w2 H, hs_l2 H, hs_t3 H, hs_r3 H, hs_w3 H, hs_l3 H, hs_t14 H, hs_r14 H, hs_w14 H, hs_l14 H, hs_t15 H, hs_r15 H, hs_w15 H, hs_l15 H, hs_ob4 H, hs_g4_0 H, hs_t5 H, hs_r5 H, hs_w5 H, hs_l5 H, hs_g4_1 H, hs_t6 H, hs_r6 H, hs_w6 H, hs_l6 H, hs_g4_2 H, hs_t7 H, hs_r7 H, hs_w7 H, hs_l7 H, hs_g4_3 H, hs_t8 H, hs_r8 H, hs_w8 H, hs_l8 H, hs_ob9 H, hs_g9_0 H, hs_t10 H, hs_r10 H, hs_w10 H, hs_l10 H, hs_g9_1 H, hs_t11 H, hs_r11 H, hs_w11 H, hs_l11 H, hs_g9_2 H, hs_t12 H, hs_r12 H, hs_w12 H, hs_l12 H, hs_g9_3 H, hs_t13 H, hs_r13 H, hs_w13 H, hs_l13 H, hs_ob16 H, hs_g16 H, hs_t17 H, hs_r17 H, hs_w17 H, hs_l17 H, hs_ob5 H, hs_g50 H, hs_g51 H, hs_tu6 H, hs_ru6 H, hs_wu6 H, hs_lu6 H, hs_tu7 H, hs_ru7 H, hs_wu7 H, hs_lu7 H, hP, hkk]
  · rw [if_neg (by omega), if_pos h0]
    rw [kI_n (by omega)] at hkk
    rw [oI_m (by omega)] at hoo
    have := (V.1 p hp16).2.1 (by omega)
    simp (disch := omega) only [fH_howFrom, gd1, bs1, ↓reduceIte, d_nz, d_nn, or_true, true_or, or_false, false_or, decide_true, Sum.elim_inl, Sum.elim_inr, ↓l_m1, l_0, l_1, l_2, l_3, l_4, l_5, l_6, l_7, l_8, l_9, l_10, l_16, l_17, l_18, l_20, l_23, l_24, l_30, l_31, l_32, l_39, l_40, l_41, l_48, l_57, l_58, l_59, l_60, l_63, l_90, l_97, l_98, l_99, l_100, l_102, l_103, l_104, l_107, l_109, l_112, l_115, l_116, l_117, l_120, l_122, l_126, l_166, l_180, l_240, l_255, l_640, l_999, l_2656, l_3064, l_3704, l_3708, l_3712, l_3713, l_3893, l_155720, l_1000000, n_ltT, n_ltF, n_leT, n_leF, n_eqT, n_eqF, n_eqm, n_eqm', n_mltn, n_mlen, n_nltm, n_nlem, n_mltm, n_mlem, n_add, n_mul, n_sub, n_subm, n_cl, n_ofNat, n_div, n_mod, obM_si, rdI_si, wrI_si, lnI_si, grM_si', tgM_si', obM_sa, rdI_sa, wrI_sa, lnI_sa, grM_sa', tgM_sa', hs_ob H, hs_g0 H, hs_g1 H, hs_g2 H, hs_g3 H, hs_g4 H, hs_g5 H, hs_g6 H, hs_g7 H, hs_g8 H, hs_t1 H, hs_r1 H, hs_w1 H, hs_l1 H, hs_t2 H, hs_r2 H, hs_w2 H, hs_l2 H, hs_t3 H, hs_r3 H, hs_w3 H, hs_l3 H, hs_t14 H, hs_r14 H, hs_w14 H, hs_l14 H, hs_t15 H, hs_r15 H, hs_w15 H, hs_l15 H, hs_ob4 H, hs_g4_0 H, hs_t5 H, hs_r5 H, hs_w5 H, hs_l5 H, hs_g4_1 H, hs_t6 H, hs_r6 H, hs_w6 H, hs_l6 H, hs_g4_2 H, hs_t7 H, hs_r7 H, hs_w7 H, hs_l7 H, hs_g4_3 H, hs_t8 H, hs_r8 H, hs_w8 H, hs_l8 H, hs_ob9 H, hs_g9_0 H, hs_t10 H, hs_r10 H, hs_w10 H, hs_l10 H, hs_g9_1 H, hs_t11 H, hs_r11 H, hs_w11 H, hs_l11 H, hs_g9_2 H, hs_t12 H, hs_r12 H, hs_w12 H, hs_l12 H, hs_g9_3 H, hs_t13 H, hs_r13 H, hs_w13 H, hs_l13 H, hs_ob16 H, hs_g16 H, hs_t17 H, hs_r17 H, hs_w17 H, hs_l17 H, hs_ob5 H, hs_g50 H, hs_g51 H, hs_tu6 H, hs_ru6 H, hs_wu6 H, hs_lu6 H, hs_tu7 H, hs_ru7 H, hs_wu7 H, hs_lu7 H, hP, hkk, hoo]
  · rw [if_neg (by omega), if_neg (by omega)]
    rw [kI_n (by omega)] at hkk
    rw [oI_n (by omega), h1] at hoo
    have hcl := (V.1 p hp16).2.1 (by omega)
    have hq : 6 * t + cl S p < 24 := by omega
    have hm : p ∈ qu S (6 * t + cl S p) := ((V.2.2.1 _ hq).2 p).mpr ⟨hp16, h0, by rw [h1]⟩
    have hF := (cv_Q C _ hq).1
    have hB := (cv_Q C _ hq).2.2.2
    cases e : qu S (6 * t + cl S p) with
    | nil => rw [e] at hm; cases hm
    | cons y ys =>
      rw [e] at hF hB
      have hF1 : giM M (h + 5) (6 * t + cl S p) = nI y := hF.1
      have hy := (hB y List.mem_cons_self).1
      by_cases h2 : y = p
      · subst h2
        rw [if_neg (fun q => q rfl)]
        by_cases h3 : bl S (3 * y) = []
        · rw [h3] at l0
          rw [if_neg (fun q => q h3)]
          by_cases h4 : bl S (3 * y + 1) = []
          · rw [h4] at l1
            rw [if_neg (fun q => q h4)]
            simp (disch := omega) only [fH_howFrom, fH_queueOf, BH_howFrom_84, gd1, bs1, ↓reduceIte, d_nz, d_nn, or_true, true_or, or_false, false_or, decide_true, Sum.elim_inl, Sum.elim_inr, ↓l_m1, l_0, l_1, l_2, l_3, l_4, l_5, l_6, l_7, l_8, l_9, l_10, l_16, l_17, l_18, l_20, l_23, l_24, l_30, l_31, l_32, l_39, l_40, l_41, l_48, l_57, l_58, l_59, l_60, l_63, l_90, l_97, l_98, l_99, l_100, l_102, l_103, l_104, l_107, l_109, l_112, l_115, l_116, l_117, l_120, l_122, l_126, l_166, l_180, l_240, l_255, l_640, l_999, l_2656, l_3064, l_3704, l_3708, l_3712, l_3713, l_3893, l_155720, l_1000000, n_ltT, n_ltF, n_leT, n_leF, n_eqT, n_eqF, n_eqm, n_eqm', n_mltn, n_mlen, n_nltm, n_nlem, n_mltm, n_mlem, n_add, n_mul, n_sub, n_subm, n_cl, n_ofNat, n_div, n_mod, obM_si, rdI_si, wrI_si, lnI_si, grM_si', tgM_si', obM_sa, rdI_sa, wrI_sa, lnI_sa, grM_sa', tgM_sa', hs_ob H, hs_g0 H, hs_g1 H, hs_g2 H, hs_g3 H, hs_g4 H, hs_g5 H, hs_g6 H, hs_g7 H, hs_g8 H, hs_t1 H, hs_r1 H, hs_w1 H, hs_l1 H, hs_t2 H, hs_r2 H, hs_w2 H, hs_l2 H, hs_t3 H, hs_r3 H, hs_w3 H, hs_l3 H, hs_t14 H, hs_r14 H, hs_w14 H, hs_l14 H, hs_t15 H, hs_r15 H, hs_w15 H, hs_l15 H, hs_ob4 H, hs_g4_0 H, hs_t5 H, hs_r5 H, hs_w5 H, hs_l5 H, hs_g4_1 H, hs_t6 H, hs_r6 H, hs_w6 H, hs_l6 H, hs_g4_2 H, hs_t7 H, hs_r7 H, hs_w7 H, hs_l7 H, hs_g4_3 H, hs_t8 H, hs_r8 H, hs_w8 H, hs_l8 H, hs_ob9 H, hs_g9_0 H, hs_t10 H, hs_r10 H, hs_w10 H, hs_l10 H, hs_g9_1 H, hs_t11 H, hs_r11 H, hs_w11 H, hs_l11 H, hs_g9_2 H, hs_t12 H, hs_r12 H, hs_w12 H, hs_l12 H, hs_g9_3 H, hs_t13 H, hs_r13 H, hs_w13 H, hs_l13 H, hs_ob16 H, hs_g16 H, hs_t17 H, hs_r17 H, hs_w17 H, hs_l17 H, hs_ob5 H, hs_g50 H, hs_g51 H, hs_tu6 H, hs_ru6 H, hs_wu6 H, hs_lu6 H, hs_tu7 H, hs_ru7 H, hs_wu7 H, hs_lu7 H, mul3, mul6, mul16, mul40, mul100, Nat.add_zero, hP, hkk, hoo, hF1, l0, l1, List.length_nil]
          · have := List.length_pos_iff.mpr h4
            rw [if_pos h4]
            simp (disch := omega) only [fH_howFrom, fH_queueOf, BH_howFrom_84, gd1, bs1, ↓reduceIte, d_nz, d_nn, or_true, true_or, or_false, false_or, decide_true, Sum.elim_inl, Sum.elim_inr, ↓l_m1, l_0, l_1, l_2, l_3, l_4, l_5, l_6, l_7, l_8, l_9, l_10, l_16, l_17, l_18, l_20, l_23, l_24, l_30, l_31, l_32, l_39, l_40, l_41, l_48, l_57, l_58, l_59, l_60, l_63, l_90, l_97, l_98, l_99, l_100, l_102, l_103, l_104, l_107, l_109, l_112, l_115, l_116, l_117, l_120, l_122, l_126, l_166, l_180, l_240, l_255, l_640, l_999, l_2656, l_3064, l_3704, l_3708, l_3712, l_3713, l_3893, l_155720, l_1000000, n_ltT, n_ltF, n_leT, n_leF, n_eqT, n_eqF, n_eqm, n_eqm', n_mltn, n_mlen, n_nltm, n_nlem, n_mltm, n_mlem, n_add, n_mul, n_sub, n_subm, n_cl, n_ofNat, n_div, n_mod, obM_si, rdI_si, wrI_si, lnI_si, grM_si', tgM_si', obM_sa, rdI_sa, wrI_sa, lnI_sa, grM_sa', tgM_sa', hs_ob H, hs_g0 H, hs_g1 H, hs_g2 H, hs_g3 H, hs_g4 H, hs_g5 H, hs_g6 H, hs_g7 H, hs_g8 H, hs_t1 H, hs_r1 H, hs_w1 H, hs_l1 H, hs_t2 H, hs_r2 H, hs_w2 H, hs_l2 H, hs_t3 H, hs_r3 H, hs_w3 H, hs_l3 H, hs_t14 H, hs_r14 H, hs_w14 H, hs_l14 H, hs_t15 H, hs_r15 H, hs_w15 H, hs_l15 H, hs_ob4 H, hs_g4_0 H, hs_t5 H, hs_r5 H, hs_w5 H, hs_l5 H, hs_g4_1 H, hs_t6 H, hs_r6 H, hs_w6 H, hs_l6 H, hs_g4_2 H, hs_t7 H, hs_r7 H, hs_w7 H, hs_l7 H, hs_g4_3 H, hs_t8 H, hs_r8 H, hs_w8 H, hs_l8 H, hs_ob9 H, hs_g9_0 H, hs_t10 H, hs_r10 H, hs_w10 H, hs_l10 H, hs_g9_1 H, hs_t11 H, hs_r11 H, hs_w11 H, hs_l11 H, hs_g9_2 H, hs_t12 H, hs_r12 H, hs_w12 H, hs_l12 H, hs_g9_3 H, hs_t13 H, hs_r13 H, hs_w13 H, hs_l13 H, hs_ob16 H, hs_g16 H, hs_t17 H, hs_r17 H, hs_w17 H, hs_l17 H, hs_ob5 H, hs_g50 H, hs_g51 H, hs_tu6 H, hs_ru6 H, hs_wu6 H, hs_lu6 H, hs_tu7 H, hs_ru7 H, hs_wu7 H, hs_lu7 H, mul3, mul6, mul16, mul40, mul100, Nat.add_zero, hP, hkk, hoo, hF1, l0, l1, List.length_nil]
        · have := List.length_pos_iff.mpr h3
          rw [if_pos h3]
          simp (disch := omega) only [fH_howFrom, fH_queueOf, BH_howFrom_84, gd1, bs1, ↓reduceIte, d_nz, d_nn, or_true, true_or, or_false, false_or, decide_true, Sum.elim_inl, Sum.elim_inr, ↓l_m1, l_0, l_1, l_2, l_3, l_4, l_5, l_6, l_7, l_8, l_9, l_10, l_16, l_17, l_18, l_20, l_23, l_24, l_30, l_31, l_32, l_39, l_40, l_41, l_48, l_57, l_58, l_59, l_60, l_63, l_90, l_97, l_98, l_99, l_100, l_102, l_103, l_104, l_107, l_109, l_112, l_115, l_116, l_117, l_120, l_122, l_126, l_166, l_180, l_240, l_255, l_640, l_999, l_2656, l_3064, l_3704, l_3708, l_3712, l_3713, l_3893, l_155720, l_1000000, n_ltT, n_ltF, n_leT, n_leF, n_eqT, n_eqF, n_eqm, n_eqm', n_mltn, n_mlen, n_nltm, n_nlem, n_mltm, n_mlem, n_add, n_mul, n_sub, n_subm, n_cl, n_ofNat, n_div, n_mod, obM_si, rdI_si, wrI_si, lnI_si, grM_si', tgM_si', obM_sa, rdI_sa, wrI_sa, lnI_sa, grM_sa', tgM_sa', hs_ob H, hs_g0 H, hs_g1 H, hs_g2 H, hs_g3 H, hs_g4 H, hs_g5 H, hs_g6 H, hs_g7 H, hs_g8 H, hs_t1 H, hs_r1 H, hs_w1 H, hs_l1 H, hs_t2 H, hs_r2 H, hs_w2 H, hs_l2 H, hs_t3 H, hs_r3 H, hs_w3 H, hs_l3 H, hs_t14 H, hs_r14 H, hs_w14 H, hs_l14 H, hs_t15 H, hs_r15 H, hs_w15 H, hs_l15 H, hs_ob4 H, hs_g4_0 H, hs_t5 H, hs_r5 H, hs_w5 H, hs_l5 H, hs_g4_1 H, hs_t6 H, hs_r6 H, hs_w6 H, hs_l6 H, hs_g4_2 H, hs_t7 H, hs_r7 H, hs_w7 H, hs_l7 H, hs_g4_3 H, hs_t8 H, hs_r8 H, hs_w8 H, hs_l8 H, hs_ob9 H, hs_g9_0 H, hs_t10 H, hs_r10 H, hs_w10 H, hs_l10 H, hs_g9_1 H, hs_t11 H, hs_r11 H, hs_w11 H, hs_l11 H, hs_g9_2 H, hs_t12 H, hs_r12 H, hs_w12 H, hs_l12 H, hs_g9_3 H, hs_t13 H, hs_r13 H, hs_w13 H, hs_l13 H, hs_ob16 H, hs_g16 H, hs_t17 H, hs_r17 H, hs_w17 H, hs_l17 H, hs_ob5 H, hs_g50 H, hs_g51 H, hs_tu6 H, hs_ru6 H, hs_wu6 H, hs_lu6 H, hs_tu7 H, hs_ru7 H, hs_wu7 H, hs_lu7 H, mul3, mul6, mul16, mul40, mul100, Nat.add_zero, hP, hkk, hoo, hF1, l0]
      · rw [if_pos (show (y :: ys).head? ≠ some p from fun q => h2 (Option.some.inj q))]
        simp (disch := omega) only [fH_howFrom, fH_queueOf, BH_howFrom_84, gd1, bs1, ↓reduceIte, d_nz, d_nn, or_true, true_or, or_false, false_or, decide_true, Sum.elim_inl, Sum.elim_inr, ↓l_m1, l_0, l_1, l_2, l_3, l_4, l_5, l_6, l_7, l_8, l_9, l_10, l_16, l_17, l_18, l_20, l_23, l_24, l_30, l_31, l_32, l_39, l_40, l_41, l_48, l_57, l_58, l_59, l_60, l_63, l_90, l_97, l_98, l_99, l_100, l_102, l_103, l_104, l_107, l_109, l_112, l_115, l_116, l_117, l_120, l_122, l_126, l_166, l_180, l_240, l_255, l_640, l_999, l_2656, l_3064, l_3704, l_3708, l_3712, l_3713, l_3893, l_155720, l_1000000, n_ltT, n_ltF, n_leT, n_leF, n_eqT, n_eqF, n_eqm, n_eqm', n_mltn, n_mlen, n_nltm, n_nlem, n_mltm, n_mlem, n_add, n_mul, n_sub, n_subm, n_cl, n_ofNat, n_div, n_mod, obM_si, rdI_si, wrI_si, lnI_si, grM_si', tgM_si', obM_sa, rdI_sa, wrI_sa, lnI_sa, grM_sa', tgM_sa', hs_ob H, hs_g0 H, hs_g1 H, hs_g2 H, hs_g3 H, hs_g4 H, hs_g5 H, hs_g6 H, hs_g7 H, hs_g8 H, hs_t1 H, hs_r1 H, hs_w1 H, hs_l1 H, hs_t2 H, hs_r2 H, hs_w2 H, hs_l2 H, hs_t3 H, hs_r3 H, hs_w3 H, hs_l3 H, hs_t14 H, hs_r14 H, hs_w14 H, hs_l14 H, hs_t15 H, hs_r15 H, hs_w15 H, hs_l15 H, hs_ob4 H, hs_g4_0 H, hs_t5 H, hs_r5 H, hs_w5 H, hs_l5 H, hs_g4_1 H, hs_t6 H, hs_r6 H, hs_w6 H, hs_l6 H, hs_g4_2 H, hs_t7 H, hs_r7 H, hs_w7 H, hs_l7 H, hs_g4_3 H, hs_t8 H, hs_r8 H, hs_w8 H, hs_l8 H, hs_ob9 H, hs_g9_0 H, hs_t10 H, hs_r10 H, hs_w10 H, hs_l10 H, hs_g9_1 H, hs_t11 H, hs_r11 H, hs_w11 H, hs_l11 H, hs_g9_2 H, hs_t12 H, hs_r12 H, hs_w12 H, hs_l12 H, hs_g9_3 H, hs_t13 H, hs_r13 H, hs_w13 H, hs_l13 H, hs_ob16 H, hs_g16 H, hs_t17 H, hs_r17 H, hs_w17 H, hs_l17 H, hs_ob5 H, hs_g50 H, hs_g51 H, hs_tu6 H, hs_ru6 H, hs_wu6 H, hs_lu6 H, hs_tu7 H, hs_ru7 H, hs_wu7 H, hs_lu7 H, mul3, mul6, mul16, mul40, mul100, Nat.add_zero, hP, hkk, hoo, hF1]
end CG
