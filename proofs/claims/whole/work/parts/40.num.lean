/-! NUMBERS: everything small and not negative is nI of a natural number -/
theorem n_ltT {a b : Nat} (h : a < b) (hb : b < 2147483648) : (nI a < nI b) = True := eq_true (nI_lt h hb)
theorem n_ltF {a b : Nat} (h : b ≤ a) (ha : a < 2147483648) : (nI a < nI b) = False := eq_false (nI_nlt h ha)
theorem n_leT {a b : Nat} (h : a ≤ b) (hb : b < 2147483648) : (nI a ≤ nI b) = True := eq_true (nI_le h hb)
theorem n_leF {a b : Nat} (h : b < a) (ha : a < 2147483648) : (nI a ≤ nI b) = False := eq_false (nI_ge h ha)
theorem n_eqT {a b : Nat} (h : a = b) : (nI a = nI b) = True := eq_true (congrArg nI h)
theorem n_eqF {a b : Nat} (h : a ≠ b) (ha : a < 2147483648) (hb : b < 2147483648) : (nI a = nI b) = False := eq_false (fun e => h ((nI_eq ha hb).mp e))
theorem n_lt0F {a : Nat} (ha : a < 2147483648) : (nI a < 0) = False := eq_false (nI_pos ha)
theorem n_0leT {a : Nat} (ha : a < 2147483648) : (0 ≤ nI a) = True := eq_true (nI_pos' ha)
theorem n_0leF0 : ((0 : Int32) ≤ -1) = False := by decide
theorem n_eq0T {a : Nat} (h : a = 0) : (nI a = 0) = True := eq_true (by rw [h]; rfl)
theorem n_eq0F {a : Nat} (h : 0 < a) (ha : a < 2147483648) : (nI a = 0) = False := eq_false (nI_ne0 h ha)
theorem n_m_toInt : (-1 : Int32).toInt = -1 := by decide
theorem n_eqm {a : Nat} (ha : a < 2147483648) : (nI a = -1) = False := eq_false (fun e => by
  have h := congrArg Int32.toInt e
  rw [nI_toInt ha, n_m_toInt] at h
  omega)
theorem n_eqm' {a : Nat} (ha : a < 2147483648) : (-1 = nI a) = False := eq_false (fun e => by
  have h := congrArg Int32.toInt e
  rw [nI_toInt ha, n_m_toInt] at h
  omega)
theorem n_0ltT {a : Nat} (h : 0 < a) (ha : a < 2147483648) : (0 < nI a) = True := eq_true (by rw [← nI_0]; exact nI_lt h ha)
theorem n_0ltF {a : Nat} (h : a = 0) : (0 < nI a) = False := eq_false (by rw [h]; decide)
theorem n_le0T {a : Nat} (h : a = 0) : (nI a ≤ 0) = True := eq_true (by rw [h]; decide)
theorem n_le0F {a : Nat} (h : 0 < a) (ha : a < 2147483648) : (nI a ≤ 0) = False := eq_false (nI_nle h ha)
theorem n_mltn {a : Nat} (ha : a < 2147483648) : (-1 < nI a) = True := eq_true (by
  rw [Int32.lt_iff_toInt_lt, nI_toInt ha, n_m_toInt]; omega)
theorem n_mlen {a : Nat} (ha : a < 2147483648) : (-1 ≤ nI a) = True := eq_true (by
  rw [Int32.le_iff_toInt_le, nI_toInt ha, n_m_toInt]; omega)
theorem n_mlt0 : ((-1 : Int32) < 0) = True := by decide
theorem n_nltm {a : Nat} (ha : a < 2147483648) : (nI a < -1) = False := eq_false (by
  rw [Int32.lt_iff_toInt_lt, nI_toInt ha, n_m_toInt]; omega)
theorem n_nlem {a : Nat} (ha : a < 2147483648) : (nI a ≤ -1) = False := eq_false (by
  rw [Int32.le_iff_toInt_le, nI_toInt ha, n_m_toInt]; omega)
theorem n_add (a b : Nat) : nI a + nI b = nI (a + b) := nI_add a b
theorem n_add1 (a : Nat) : nI a + 1 = nI (a + 1) := nI_1 a
theorem n_mul (a b : Nat) : nI a * nI b = nI (a * b) := pk_mul a b
theorem n_sub {a b : Nat} (h : b ≤ a) : nI a - nI b = nI (a - b) := pk_sub h
theorem n_sub1 {a : Nat} (h : 0 < a) : nI a - 1 = nI (a - 1) := by
  rw [show (1 : Int32) = nI 1 from rfl]; exact pk_sub h
theorem n_subm {a : Nat} (h : 0 < a) : nI a + (-1) = nI (a - 1) := by
  rw [← Int32.sub_eq_add_neg]; exact n_sub1 h
theorem n_cl {a : Nat} (h : a < 2147483648) : (nI a).toNatClampNeg = a := nI_clamp h
theorem n_cl0 : (0 : Int32).toNatClampNeg = 0 := rfl
theorem n_cl1 : (1 : Int32).toNatClampNeg = 1 := rfl
theorem n_ofNat (a : Nat) : Int32.ofNat a = nI a := rfl
theorem n_div {a b : Nat} (ha : a < 2147483648) (hb : b < 2147483648) : nI a / nI b = nI (a / b) := (Int32.ofNat_div ha hb).symm
theorem n_rem {a b : Nat} (ha : a < 2147483648) (hb : b < 2147483648) : nI a - nI a / nI b * nI b = nI (a % b) := by
  rw [n_div ha hb, n_mul, n_sub (Nat.div_mul_le_self a b)]
  congr 1
  have := Nat.div_add_mod a b
  rw [Nat.mul_comm] at this
  omega
theorem n_rem' {a b : Nat} (h : b ≠ 0) : nI a - nI (a / b * b) = nI (a % b) := by
  rw [n_sub (Nat.div_mul_le_self a b)]
  congr 1
  have := Nat.div_add_mod a b
  rw [Nat.mul_comm] at this
  omega
theorem if_t {α : Type} {a b : α} : (if True then a else b) = a := if_pos trivial
theorem if_f {α : Type} {a b : α} : (if False then a else b) = b := if_neg id
theorem gd1 {α : Type} (t : Option α) : gd true t = t := rfl
theorem obM_si (M : Mem) (a i : Nat) (x : Int32) : obM (siM M a i x) = obM M := rfl
theorem rdI_si (M : Mem) (a i : Nat) (x : Int32) : rdI (siM M a i x) = rdI M := rfl
theorem wrI_si (M : Mem) (a i : Nat) (x : Int32) : wrI (siM M a i x) = wrI M := rfl
theorem lnI_si (M : Mem) (a i : Nat) (x : Int32) : lnI (siM M a i x) = lnI M := rfl
theorem grM_si' (M : Mem) (a i : Nat) (x : Int32) : grM (siM M a i x) = grM M := rfl
theorem tgM_si' (M : Mem) (a i : Nat) (x : Int32) : tgM (siM M a i x) = tgM M := rfl
theorem cnM_si' (M : Mem) (a i : Nat) (x : Int32) : cnM (siM M a i x) = cnM M := rfl
theorem glM_si' (M : Mem) (a i : Nat) (x : Int32) : glM (siM M a i x) = glM M := rfl
/-- a function changed at one place -/
def ud (f : Nat → Int32) (i : Nat) (x : Int32) : Nat → Int32 := fun j => if j = i then x else f j
theorem ud_s (f : Nat → Int32) (i : Nat) (x : Int32) : ud f i x i = x := if_pos rfl
theorem ud_n (f : Nat → Int32) {i j : Nat} (x : Int32) (h : j ≠ i) : ud f i x j = f j := if_neg h
theorem giM_ud (M : Mem) (a i : Nat) (x : Int32) : giM (siM M a i x) a = ud (giM M a) i x := giM_si_own
theorem giM_un {M : Mem} {a b i : Nat} {x : Int32} (h : b ≠ a) : giM (siM M a i x) b = giM M b := giM_si_row h
/-- what an array of ints allows -/
theorem ar_rd {M : Mem} {a n i : Nat} (h : ownM M a = true ∧ tgM M a = (100, n) ∧ n < 2147483648) (hi : i < n) : rdI M a (nI i) = true := by
  unfold rdI
  rw [h.1, h.2.1]
  show (true && decide (100 = 100) && inM (Int32.ofNat i) n) = true
  rw [inM_nat (by have := h.2.2; omega), decide_eq_true hi]
  rfl
theorem ar_wr {M : Mem} {a n i : Nat} (h : ownM M a = true ∧ tgM M a = (100, n) ∧ n < 2147483648) (hi : i < n) : wrI M a (nI i) = true := by
  unfold wrI
  rw [h.1, h.2.1]
  show (true && decide (100 = 100) && inM (Int32.ofNat i) n) = true
  rw [inM_nat (by have := h.2.2; omega), decide_eq_true hi]
  rfl
theorem ar_ln {M : Mem} {a n : Nat} (h : ownM M a = true ∧ tgM M a = (100, n) ∧ n < 2147483648) : lnI M a = true := by
  unfold lnI
  rw [h.1, h.2.1]
  rfl
/-- a loop that runs through n states -/
theorem loopN {α β : Type} {L : Nat → α → Option β} {B : (α → Option β) → α → Option β} (hL : ∀ f, L (f + 1) = B (L f)) (s : Nat → α) (n : Nat) {r : β} (hs : ∀ i, i < n → ∀ K, B K (s i) = K (s (i + 1))) (he : ∀ K, B K (s n) = some r) : ∀ f, n < f → L f (s 0) = some r := by
  have h : ∀ k f i, i + k = n → k < f → L f (s i) = some r := by
    intro k
    induction k with
    | zero =>
      intro f i hi hf
      obtain ⟨f, rfl⟩ : ∃ g, f = g + 1 := ⟨f - 1, by omega⟩
      rw [hL, show i = n by omega, he]
    | succ k ih =>
      intro f i hi hf
      obtain ⟨f, rfl⟩ : ∃ g, f = g + 1 := ⟨f - 1, by omega⟩
      rw [hL, hs i (by omega)]
      exact ih f (i + 1) (by omega) (by omega)
  intro f hf
  exact h n f 0 (by omega) hf
theorem l_2 : (2 : Int32) = nI 2 := rfl
theorem l_3 : (3 : Int32) = nI 3 := rfl
theorem l_4 : (4 : Int32) = nI 4 := rfl
theorem l_5 : (5 : Int32) = nI 5 := rfl
theorem l_6 : (6 : Int32) = nI 6 := rfl
theorem l_7 : (7 : Int32) = nI 7 := rfl
theorem l_8 : (8 : Int32) = nI 8 := rfl
theorem l_9 : (9 : Int32) = nI 9 := rfl
theorem l_10 : (10 : Int32) = nI 10 := rfl
theorem l_16 : (16 : Int32) = nI 16 := rfl
theorem l_17 : (17 : Int32) = nI 17 := rfl
theorem l_18 : (18 : Int32) = nI 18 := rfl
theorem l_23 : (23 : Int32) = nI 23 := rfl
theorem l_24 : (24 : Int32) = nI 24 := rfl
theorem l_31 : (31 : Int32) = nI 31 := rfl
theorem l_32 : (32 : Int32) = nI 32 := rfl
theorem l_39 : (39 : Int32) = nI 39 := rfl
theorem l_40 : (40 : Int32) = nI 40 := rfl
theorem l_41 : (41 : Int32) = nI 41 := rfl
theorem l_48 : (48 : Int32) = nI 48 := rfl
theorem l_60 : (60 : Int32) = nI 60 := rfl
theorem l_63 : (63 : Int32) = nI 63 := rfl
theorem l_90 : (90 : Int32) = nI 90 := rfl
theorem l_99 : (99 : Int32) = nI 99 := rfl
theorem l_100 : (100 : Int32) = nI 100 := rfl
theorem l_126 : (126 : Int32) = nI 126 := rfl
theorem l_166 : (166 : Int32) = nI 166 := rfl
theorem l_180 : (180 : Int32) = nI 180 := rfl
theorem l_240 : (240 : Int32) = nI 240 := rfl
theorem l_255 : (255 : Int32) = nI 255 := rfl
theorem l_640 : (640 : Int32) = nI 640 := rfl
theorem l_999 : (999 : Int32) = nI 999 := rfl
theorem l_1000000 : (1000000 : Int32) = nI 1000000 := rfl
theorem l_2656 : (2656 : Int32) = nI 2656 := rfl
theorem l_3064 : (3064 : Int32) = nI 3064 := rfl
theorem l_3704 : (3704 : Int32) = nI 3704 := rfl
theorem l_3708 : (3708 : Int32) = nI 3708 := rfl
theorem l_3712 : (3712 : Int32) = nI 3712 := rfl
theorem l_3713 : (3713 : Int32) = nI 3713 := rfl
theorem l_3893 : (3893 : Int32) = nI 3893 := rfl
theorem l_155720 : (155720 : Int32) = nI 155720 := rfl
