/-! READING: the letters of a text -/
def tixP (i c j : Nat) : Bool := decide (sbM (7001 + i) j = (Int32.toInt8 (nI c)).toInt32)
def tix (i c : Nat) : Option Nat := lo (tixP i c) 0 (snM (7001 + i))
section TX
variable {M : Mem}
theorem inM_n {k n : Nat} (h : k < n) (hn : n < 2147483648) : inM (nI k) n = true := by
  unfold inM
  have e : (nI k).toInt = k := nI_toInt (by omega)
  rw [e]
  exact decide_eq_true (by omega)
theorem ix_loop {i c : Nat} (hi : i < 3) (hn : snM (7001 + i) ≤ 7) : ∀ d f k, k + d = snM (7001 + i) → d < f → LQ_indexOfChar_7 f (7001 + i) (nI (snM (7001 + i))) ((Int32.toInt8 (nI c)).toInt32) (nI k) M = some (oN (lo (tixP i c) k d), M) := by
  have hb : btM (7001 + i) = true := decide_eq_true (by omega)
  intro d
  induction d with
  | zero =>
    intro f k hk hf
    obtain ⟨g, rfl⟩ : ∃ g, f = g + 1 := ⟨f - 1, by omega⟩
    show BQ_indexOfChar_7 (LQ_indexOfChar_7 g) (7001 + i) (nI (snM (7001 + i))) ((Int32.toInt8 (nI c)).toInt32) (nI k) M = some (mI, M)
    generalize (Int32.toInt8 (nI c)).toInt32 = z
    generalize snM (7001 + i) = n at hn hk
    simp (disch := omega) only [BQ_indexOfChar_7, gd1, bs1, ↓reduceIte, d_nz, d_nn, or_true, true_or, or_false, false_or, decide_true, Sum.elim_inl, Sum.elim_inr, ↓l_m1, l_0, l_1, l_2, l_3, l_4, l_5, l_6, l_7, l_8, l_9, l_10, l_16, l_17, l_18, l_20, l_23, l_24, l_30, l_31, l_32, l_39, l_40, l_41, l_48, l_57, l_58, l_59, l_60, l_63, l_90, l_97, l_98, l_99, l_100, l_102, l_103, l_104, l_107, l_109, l_112, l_115, l_116, l_117, l_120, l_122, l_126, l_166, l_180, l_240, l_255, l_640, l_999, l_2656, l_3064, l_3704, l_3708, l_3712, l_3713, l_3893, l_155720, l_1000000, n_ltT, n_ltF, n_leT, n_leF, n_eqT, n_eqF, n_eqm, n_eqm', n_mltn, n_mlen, n_nltm, n_nlem, n_mltm, n_mlem, n_add, n_mul, n_sub, n_subm, n_cl, n_ofNat, n_div, n_mod, obM_si, rdI_si, wrI_si, lnI_si, grM_si', tgM_si', obM_sa, rdI_sa, wrI_sa, lnI_sa, grM_sa', tgM_sa']
  | succ d ih =>
    intro f k hk hf
    obtain ⟨g, rfl⟩ : ∃ g, f = g + 1 := ⟨f - 1, by omega⟩
    have e := ih g (k + 1) (by omega) (by omega)
    have hin := inM_n (k := k) (n := snM (7001 + i)) (by omega) (by omega)
    show BQ_indexOfChar_7 (LQ_indexOfChar_7 g) (7001 + i) (nI (snM (7001 + i))) ((Int32.toInt8 (nI c)).toInt32) (nI k) M = some (oN (if tixP i c k then some k else lo (tixP i c) (k + 1) d), M)
    by_cases hz : sbM (7001 + i) k = (Int32.toInt8 (nI c)).toInt32
    · have ht : tixP i c k = true := decide_eq_true hz
      rw [ht, if_pos rfl]
      generalize (Int32.toInt8 (nI c)).toInt32 = z at hz
      generalize hs : snM (7001 + i) = n at hn hk hin
      simp (disch := omega) only [BQ_indexOfChar_7, gd1, bs1, ↓reduceIte, d_nz, d_nn, or_true, true_or, or_false, false_or, decide_true, Sum.elim_inl, Sum.elim_inr, n_leF, n_cl, hb, hin, hs, hz]
      rfl
    · have ht : tixP i c k = false := decide_eq_false hz
      rw [ht]
      generalize (Int32.toInt8 (nI c)).toInt32 = z at hz e
      generalize hs : snM (7001 + i) = n at hn hk hin e
      simp (disch := omega) only [BQ_indexOfChar_7, gd1, bs1, ↓reduceIte, d_nz, d_nn, or_true, true_or, or_false, false_or, decide_true, Sum.elim_inl, Sum.elim_inr, l_1, n_add, n_leF, n_cl, hb, hin, hs, hz, e, Bool.false_eq_true]
theorem len_ok {i : Nat} (hi : i < 3) (hn : snM (7001 + i) ≤ 7) : fJ_length (6001 + i) M = some (nI (snM (7001 + i)), M) := by
  have h1 : stM (6001 + i) = true := decide_eq_true (by omega)
  have h2 : btM (7001 + i) = true := decide_eq_true (by omega)
  have e : 6001 + i + 1000 = 7001 + i := by omega
  have h3 : fJ_coder (6001 + i) M = some (nI 0, M) := by
    unfold fJ_coder
    rw [if_neg (by decide), h1]
    rfl
  unfold fJ_length
  rw [e, h1, h2, h3]
  show some (nI (snM (7001 + i)) >>> (nI 0 &&& 31), M) = _
  have e2 : nI (snM (7001 + i)) >>> (nI 0 &&& 31) = nI (snM (7001 + i)) := by
    rcases (show i = 0 ∨ i = 1 ∨ i = 2 by omega) with rfl | rfl | rfl <;> decide
  rw [e2]
theorem ixo_ok {i c : Nat} (hi : i < 3) (hn : snM (7001 + i) ≤ 7) (h0 : 0 < snM (7001 + i)) (hc : c < 256) : fJ_indexOf (6001 + i) (nI c) M = some (oN (tix i c), M) := by
  have h1 : stM (6001 + i) = true := decide_eq_true (by omega)
  have h2 : btM (7001 + i) = true := decide_eq_true (by omega)
  have e : 6001 + i + 1000 = 7001 + i := by omega
  have hl := len_ok (M := M) hi hn
  have h3 : fJ_isLatin1 (6001 + i) M = some (nI 1, M) := by
    unfold fJ_isLatin1
    rw [if_neg (by decide), h1]
    rfl
  have k := ix_loop (M := M) (c := c) hi hn (snM (7001 + i)) 1000000 0 (by omega) (by omega)
  have h4 : fQ_canEncode (nI c) M = some (nI 1, M) := by
    simp (disch := omega) only [fQ_canEncode, BQ_canEncode_16, gd1, bs1, ↓reduceIte, d_nz, d_nn, or_true, true_or, or_false, false_or, decide_true, Sum.elim_inl, Sum.elim_inr, ↓l_m1, l_0, l_1, l_2, l_3, l_4, l_5, l_6, l_7, l_8, l_9, l_10, l_16, l_17, l_18, l_20, l_23, l_24, l_30, l_31, l_32, l_39, l_40, l_41, l_48, l_57, l_58, l_59, l_60, l_63, l_90, l_97, l_98, l_99, l_100, l_102, l_103, l_104, l_107, l_109, l_112, l_115, l_116, l_117, l_120, l_122, l_126, l_166, l_180, l_240, l_255, l_640, l_999, l_2656, l_3064, l_3704, l_3708, l_3712, l_3713, l_3893, l_155720, l_1000000, n_ltT, n_ltF, n_leT, n_leF, n_eqT, n_eqF, n_eqm, n_eqm', n_mltn, n_mlen, n_nltm, n_nlem, n_mltm, n_mlem, n_add, n_mul, n_sub, n_subm, n_cl, n_ofNat, n_div, n_mod, obM_si, rdI_si, wrI_si, lnI_si, grM_si', tgM_si', obM_sa, rdI_sa, wrI_sa, lnI_sa, grM_sa', tgM_sa']
  have h5 : fK_max (nI 0) (nI 0) M = some (nI 0, M) := by
    simp (disch := omega) only [fK_max, BK_max_10, gd1, bs1, ↓reduceIte, d_nz, d_nn, or_true, true_or, or_false, false_or, decide_true, Sum.elim_inl, Sum.elim_inr, ↓l_m1, l_0, l_1, l_2, l_3, l_4, l_5, l_6, l_7, l_8, l_9, l_10, l_16, l_17, l_18, l_20, l_23, l_24, l_30, l_31, l_32, l_39, l_40, l_41, l_48, l_57, l_58, l_59, l_60, l_63, l_90, l_97, l_98, l_99, l_100, l_102, l_103, l_104, l_107, l_109, l_112, l_115, l_116, l_117, l_120, l_122, l_126, l_166, l_180, l_240, l_255, l_640, l_999, l_2656, l_3064, l_3704, l_3708, l_3712, l_3713, l_3893, l_155720, l_1000000, n_ltT, n_ltF, n_leT, n_leF, n_eqT, n_eqF, n_eqm, n_eqm', n_mltn, n_mlen, n_nltm, n_nlem, n_mltm, n_mlem, n_add, n_mul, n_sub, n_subm, n_cl, n_ofNat, n_div, n_mod, obM_si, rdI_si, wrI_si, lnI_si, grM_si', tgM_si', obM_sa, rdI_sa, wrI_sa, lnI_sa, grM_sa', tgM_sa']
  have h6 : fK_min (nI (snM (7001 + i))) (nI (snM (7001 + i))) M = some (nI (snM (7001 + i)), M) := by
    generalize snM (7001 + i) = n at hn
    simp (disch := omega) only [fK_min, BK_min_10, gd1, bs1, ↓reduceIte, d_nz, d_nn, or_true, true_or, or_false, false_or, decide_true, Sum.elim_inl, Sum.elim_inr, ↓l_m1, l_0, l_1, l_2, l_3, l_4, l_5, l_6, l_7, l_8, l_9, l_10, l_16, l_17, l_18, l_20, l_23, l_24, l_30, l_31, l_32, l_39, l_40, l_41, l_48, l_57, l_58, l_59, l_60, l_63, l_90, l_97, l_98, l_99, l_100, l_102, l_103, l_104, l_107, l_109, l_112, l_115, l_116, l_117, l_120, l_122, l_126, l_166, l_180, l_240, l_255, l_640, l_999, l_2656, l_3064, l_3704, l_3708, l_3712, l_3713, l_3893, l_155720, l_1000000, n_ltT, n_ltF, n_leT, n_leF, n_eqT, n_eqF, n_eqm, n_eqm', n_mltn, n_mlen, n_nltm, n_nlem, n_mltm, n_mlem, n_add, n_mul, n_sub, n_subm, n_cl, n_ofNat, n_div, n_mod, obM_si, rdI_si, wrI_si, lnI_si, grM_si', tgM_si', obM_sa, rdI_sa, wrI_sa, lnI_sa, grM_sa', tgM_sa']
  have h6' : fK_min (nI (snM (7001 + i))) (Int32.ofNat (snM (7001 + i))) M = some (nI (snM (7001 + i)), M) := h6
  have k2 : fQ_indexOfChar (7001 + i) (nI c) (nI 0) (nI (snM (7001 + i))) M = some (oN (tix i c), M) := by
    unfold fQ_indexOfChar
    rw [k, bs1n]
    rfl
  have k3 : fQ_indexOf (7001 + i) (nI c) (nI 0) (nI (snM (7001 + i))) M = some (oN (tix i c), M) := by
    have hlt : nI 0 < nI (snM (7001 + i)) := of_eq_true (n_ltT h0 (by omega))
    simp (disch := omega) only [fQ_indexOf, gd1n, bs1n, ↓reduceIte, d_nz, d_nn, or_true, true_or, or_false, false_or, decide_true, Sum.elim_inl, Sum.elim_inr, ↓l_m1, l_0, l_1, l_2, l_3, l_4, l_5, l_6, l_7, l_8, l_9, l_10, l_16, l_17, l_18, l_20, l_23, l_24, l_30, l_31, l_32, l_39, l_40, l_41, l_48, l_57, l_58, l_59, l_60, l_63, l_90, l_97, l_98, l_99, l_100, l_102, l_103, l_104, l_107, l_109, l_112, l_115, l_116, l_117, l_120, l_122, l_126, l_166, l_180, l_240, l_255, l_640, l_999, l_2656, l_3064, l_3704, l_3708, l_3712, l_3713, l_3893, l_155720, l_1000000, n_eqF, h4, h5, h2, h6', hlt, k2]
  simp (disch := omega) only [fJ_indexOf, fJ_indexOf2, BJ_indexOf2_36, gd1n, bs1n, ↓reduceIte, d_nz, d_nn, or_true, true_or, or_false, false_or, decide_true, Sum.elim_inl, Sum.elim_inr, ↓l_m1, l_0, l_1, l_2, l_3, l_4, l_5, l_6, l_7, l_8, l_9, l_10, l_16, l_17, l_18, l_20, l_23, l_24, l_30, l_31, l_32, l_39, l_40, l_41, l_48, l_57, l_58, l_59, l_60, l_63, l_90, l_97, l_98, l_99, l_100, l_102, l_103, l_104, l_107, l_109, l_112, l_115, l_116, l_117, l_120, l_122, l_126, l_166, l_180, l_240, l_255, l_640, l_999, l_2656, l_3064, l_3704, l_3708, l_3712, l_3713, l_3893, l_155720, l_1000000, n_eqF, h1, h3, hl, e, k3]
theorem chr_ok {c : Nat} (hc : c < 65536) : (Int32.toUInt32 (nI c) % 65536).toInt32 = nI c := by
  rw [u32n, UInt32.toNat_mod]
  congr 1
  have e : (Int32.toUInt32 (nI c)).toNat = c := by
    show (BitVec.ofNat 32 c).toNat = c
    rw [BitVec.toNat_ofNat]
    omega
  rw [e]
  show c % 65536 = c
  omega
theorem tix_0 : ∀ c, c < 256 → tix 0 c = if c = 116 then some 0 else if c = 112 then some 1 else if c = 117 then some 2 else if c = 98 then some 3 else if c = 104 then some 4 else none := by decide +kernel
theorem tix_1 : ∀ c, c < 256 → tix 1 c = if c = 122 then some 0 else none := by decide +kernel
end TX
