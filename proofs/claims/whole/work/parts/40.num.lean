/-! NUMBERS: everything small is nI of a natural number, or mI (-1) -/
def mI : Int32 := -1
theorem l_m1 : (-1 : Int32) = mI := rfl
theorem mI_toInt : mI.toInt = -1 := by decide
theorem n_ltT {a b : Nat} (h : a < b) (hb : b < 2147483648) : (nI a < nI b) = True := eq_true (nI_lt h hb)
theorem n_ltF {a b : Nat} (h : b ≤ a) (ha : a < 2147483648) : (nI a < nI b) = False := eq_false (nI_nlt h ha)
theorem n_leT {a b : Nat} (h : a ≤ b) (hb : b < 2147483648) : (nI a ≤ nI b) = True := eq_true (nI_le h hb)
theorem n_leF {a b : Nat} (h : b < a) (ha : a < 2147483648) : (nI a ≤ nI b) = False := eq_false (nI_ge h ha)
theorem n_eqT {a b : Nat} (h : a = b) : (nI a = nI b) = True := eq_true (congrArg nI h)
theorem n_eqF {a b : Nat} (h : a ≠ b) (ha : a < 2147483648) (hb : b < 2147483648) : (nI a = nI b) = False := eq_false (fun e => h ((nI_eq ha hb).mp e))
theorem n_inj {a b : Nat} (ha : a < 2147483648) (hb : b < 2147483648) (e : nI a = nI b) : a = b := (nI_eq ha hb).mp e
theorem n_eqm {a : Nat} (ha : a < 2147483648) : (nI a = mI) = False := eq_false (fun e => by
  have h := congrArg Int32.toInt e
  rw [nI_toInt ha, mI_toInt] at h
  omega)
theorem n_eqm' {a : Nat} (ha : a < 2147483648) : (mI = nI a) = False := eq_false (fun e => by
  have h := congrArg Int32.toInt e
  rw [nI_toInt ha, mI_toInt] at h
  omega)
theorem n_mltn {a : Nat} (ha : a < 2147483648) : (mI < nI a) = True := eq_true (by
  rw [Int32.lt_iff_toInt_lt, nI_toInt ha, mI_toInt]; omega)
theorem n_mlen {a : Nat} (ha : a < 2147483648) : (mI ≤ nI a) = True := eq_true (by
  rw [Int32.le_iff_toInt_le, nI_toInt ha, mI_toInt]; omega)
theorem n_nltm {a : Nat} (ha : a < 2147483648) : (nI a < mI) = False := eq_false (by
  rw [Int32.lt_iff_toInt_lt, nI_toInt ha, mI_toInt]; omega)
theorem n_nlem {a : Nat} (ha : a < 2147483648) : (nI a ≤ mI) = False := eq_false (by
  rw [Int32.le_iff_toInt_le, nI_toInt ha, mI_toInt]; omega)
theorem n_mltm : (mI < mI) = False := by decide
theorem n_mlem : (mI ≤ mI) = True := by decide
theorem n_add (a b : Nat) : nI a + nI b = nI (a + b) := nI_add a b
theorem n_mul (a b : Nat) : nI a * nI b = nI (a * b) := pk_mul a b
theorem n_sub {a b : Nat} (h : b ≤ a) : nI a - nI b = nI (a - b) := pk_sub h
theorem n_subm {a : Nat} (h : 0 < a) : nI a + mI = nI (a - 1) := by
  rw [show mI = -nI 1 from rfl, ← Int32.sub_eq_add_neg]; exact pk_sub h
theorem n_0m : nI 0 + mI = mI := by decide
theorem n_0s : nI 0 - nI 1 = mI := by decide
theorem n_cl {a : Nat} (h : a < 2147483648) : (nI a).toNatClampNeg = a := nI_clamp h
theorem n_ofNat (a : Nat) : Int32.ofNat a = nI a := rfl
theorem n_div {a b : Nat} (ha : a < 2147483648) (hb : b < 2147483648) : nI a / nI b = nI (a / b) := (Int32.ofNat_div ha hb).symm
theorem n_mod {a b : Nat} (h : b * (a / b) ≤ a) : nI a - nI (a / b * b) = nI (a % b) := by
  rw [Nat.mul_comm] at h
  rw [n_sub h]
  congr 1
  have := Nat.div_add_mod a b
  rw [Nat.mul_comm] at this
  omega
theorem bs1 {α β : Type} (a : α) (f : α → Option β) : (some a).bind f = f a := rfl
theorem gd1 {α : Type} (t : Option α) : gd true t = t := rfl
theorem gdE {α : Type} {b : Bool} {t r : Option α} (h : b = true) (h2 : t = r) : gd b t = r := by rw [h]; exact h2
theorem biE {α β : Type} {x : Option α} {f : α → Option β} {a : α} {r : Option β} (h : x = some a) (h2 : f a = r) : x.bind f = r := by rw [h]; exact h2
theorem d_nz {x : Nat} (h : 0 < x) : decide (x ≠ 0) = true := decide_eq_true (by omega)
theorem d_nI {x : Nat} (h : x ≤ 1) : decide (nI x = nI 0 ∨ nI x = nI 1) = true := decide_eq_true (by
  rcases (show x = 0 ∨ x = 1 by omega) with rfl | rfl
  · exact Or.inl rfl
  · exact Or.inr rfl)
theorem d_nn {x : Nat} (h : 0 < x) (h2 : x < 2147483648) : decide (¬ nI x = nI 0) = true := decide_eq_true (fun e => by
  have := n_inj h2 (by omega) e
  omega)
theorem bo_T {c : Bool} : (c = true) = (c = true) := rfl
/-! memories that differ in ints alone -/
theorem obM_2 {M M' : Mem} (e : M'.2 = M.2) : obM M' = obM M := by
  obtain ⟨I, T⟩ := M; obtain ⟨I', T'⟩ := M'; obtain rfl : T' = T := e; rfl
theorem rdI_2 {M M' : Mem} (e : M'.2 = M.2) : rdI M' = rdI M := by
  obtain ⟨I, T⟩ := M; obtain ⟨I', T'⟩ := M'; obtain rfl : T' = T := e; rfl
theorem wrI_2 {M M' : Mem} (e : M'.2 = M.2) : wrI M' = wrI M := by
  obtain ⟨I, T⟩ := M; obtain ⟨I', T'⟩ := M'; obtain rfl : T' = T := e; rfl
theorem wrT_2 {M M' : Mem} (e : M'.2 = M.2) (t : Nat) : wrT t M' = wrT t M := by
  obtain ⟨I, T⟩ := M; obtain ⟨I', T'⟩ := M'; obtain rfl : T' = T := e; rfl
theorem lnI_2 {M M' : Mem} (e : M'.2 = M.2) : lnI M' = lnI M := by
  obtain ⟨I, T⟩ := M; obtain ⟨I', T'⟩ := M'; obtain rfl : T' = T := e; rfl
theorem lnT_2 {M M' : Mem} (e : M'.2 = M.2) (t : Nat) : lnT t M' = lnT t M := by
  obtain ⟨I, T⟩ := M; obtain ⟨I', T'⟩ := M'; obtain rfl : T' = T := e; rfl
theorem grM_2 {M M' : Mem} (e : M'.2 = M.2) : grM M' = grM M := by
  obtain ⟨I, T⟩ := M; obtain ⟨I', T'⟩ := M'; obtain rfl : T' = T := e; rfl
theorem tgM_2 {M M' : Mem} (e : M'.2 = M.2) : tgM M' = tgM M := by
  obtain ⟨I, T⟩ := M; obtain ⟨I', T'⟩ := M'; obtain rfl : T' = T := e; rfl
theorem glM_2 {M M' : Mem} (e : M'.2 = M.2) : glM M' = glM M := by
  obtain ⟨I, T⟩ := M; obtain ⟨I', T'⟩ := M'; obtain rfl : T' = T := e; rfl
theorem ownM_2 {M M' : Mem} (e : M'.2 = M.2) : ownM M' = ownM M := by
  obtain ⟨I, T⟩ := M; obtain ⟨I', T'⟩ := M'; obtain rfl : T' = T := e; rfl
theorem obM_si (M : Mem) (a i : Nat) (x : Int32) : obM (siM M a i x) = obM M := rfl
theorem rdI_si (M : Mem) (a i : Nat) (x : Int32) : rdI (siM M a i x) = rdI M := rfl
theorem wrI_si (M : Mem) (a i : Nat) (x : Int32) : wrI (siM M a i x) = wrI M := rfl
theorem lnI_si (M : Mem) (a i : Nat) (x : Int32) : lnI (siM M a i x) = lnI M := rfl
theorem grM_si' (M : Mem) (a i : Nat) (x : Int32) : grM (siM M a i x) = grM M := rfl
theorem tgM_si' (M : Mem) (a i : Nat) (x : Int32) : tgM (siM M a i x) = tgM M := rfl
theorem wrT_si (M : Mem) (a i : Nat) (x : Int32) (t : Nat) : wrT t (siM M a i x) = wrT t M := rfl
theorem lnT_si (M : Mem) (a i : Nat) (x : Int32) (t : Nat) : lnT t (siM M a i x) = lnT t M := rfl
theorem obM_sa (M : Mem) (a : Nat) (g : Nat → Int32) : obM (saM M a g) = obM M := rfl
theorem rdI_sa (M : Mem) (a : Nat) (g : Nat → Int32) : rdI (saM M a g) = rdI M := rfl
theorem wrI_sa (M : Mem) (a : Nat) (g : Nat → Int32) : wrI (saM M a g) = wrI M := rfl
theorem lnI_sa (M : Mem) (a : Nat) (g : Nat → Int32) : lnI (saM M a g) = lnI M := rfl
theorem grM_sa' (M : Mem) (a : Nat) (g : Nat → Int32) : grM (saM M a g) = grM M := rfl
theorem tgM_sa' (M : Mem) (a : Nat) (g : Nat → Int32) : tgM (saM M a g) = tgM M := rfl
theorem wrT_sa (M : Mem) (a : Nat) (g : Nat → Int32) (t : Nat) : wrT t (saM M a g) = wrT t M := rfl
theorem lnT_sa (M : Mem) (a : Nat) (g : Nat → Int32) (t : Nat) : lnT t (saM M a g) = lnT t M := rfl
/-- a function changed at one place -/
def ud {α : Type} (f : Nat → α) (i : Nat) (x : α) : Nat → α := fun j => if j = i then x else f j
theorem ud_s {α : Type} (f : Nat → α) (i : Nat) (x : α) : ud f i x i = x := if_pos rfl
theorem ud_n {α : Type} (f : Nat → α) {i j : Nat} (x : α) (h : j ≠ i) : ud f i x j = f j := if_neg h
theorem ud_at {α : Type} (f : Nat → α) (i j : Nat) (x : α) : ud f i x j = if j = i then x else f j := rfl
theorem giM_ud (M : Mem) (a i : Nat) (x : Int32) : giM (siM M a i x) a = ud (giM M a) i x := giM_si_own
theorem giM_un {M : Mem} {a b i : Nat} {x : Int32} (h : b ≠ a) : giM (siM M a i x) b = giM M b := giM_si_row h
theorem si_sa (M : Mem) (a i : Nat) (x : Int32) : siM M a i x = saM M a (ud (giM M a) i x) := by
  unfold saM siM
  refine Prod.ext ?_ rfl
  funext b j
  show up2 M.1 a i x b j = upA M.1 a (ud (giM M a) i x) b j
  unfold upA up2 ud giM
  by_cases hb : b = a
  · subst hb
    rw [if_pos rfl]
    by_cases hj : j = i
    · rw [if_pos ⟨rfl, hj⟩, if_pos hj]
    · rw [if_neg (fun q => hj q.2), if_neg hj]
  · rw [if_neg hb, if_neg (fun q => hb q.1)]
theorem sa_sa (M : Mem) (a : Nat) (g g' : Nat → Int32) : saM (saM M a g) a g' = saM M a g' := by
  unfold saM
  refine Prod.ext ?_ rfl
  funext b j
  show upA (upA M.1 a g) a g' b j = upA M.1 a g' b j
  unfold upA
  by_cases hb : b = a
  · rw [if_pos hb, if_pos hb]
  · rw [if_neg hb, if_neg hb, if_neg hb]
theorem sa_co {M : Mem} {a b : Nat} (h : a ≠ b) (g g' : Nat → Int32) : saM (saM M a g) b g' = saM (saM M b g') a g := by
  unfold saM
  refine Prod.ext ?_ rfl
  funext c j
  show upA (upA M.1 a g) b g' c j = upA (upA M.1 b g') a g c j
  unfold upA
  by_cases h1 : c = b
  · rw [if_pos h1, if_neg (show ¬ c = a by omega), if_pos h1]
  · rw [if_neg h1]
    by_cases h2 : c = a
    · rw [if_pos h2, if_pos h2]
    · rw [if_neg h2, if_neg h2, if_neg h1]
theorem gi_sas (M : Mem) (a : Nat) (g : Nat → Int32) : giM (saM M a g) a = g := giM_sa_s
theorem gi_san {M : Mem} {a b : Nat} (h : b ≠ a) (g : Nat → Int32) : giM (saM M a g) b = giM M b := giM_sa_n h
/-- what an array of ints allows -/
def arS (M : Mem) (a n : Nat) : Prop := ownM M a = true ∧ tgM M a = (100, n) ∧ n < 2147483648
theorem ar_rd {M : Mem} {a n i : Nat} (h : arS M a n) (hi : i < n) : rdI M a (nI i) = true := by
  unfold rdI
  rw [h.1, h.2.1]
  show (true && decide (100 = 100) && inM (Int32.ofNat i) n) = true
  rw [inM_nat (by have := h.2.2; omega), decide_eq_true hi]
  rfl
theorem ar_wr {M : Mem} {a n i : Nat} (h : arS M a n) (hi : i < n) : wrI M a (nI i) = true := by
  unfold wrI
  rw [h.1, h.2.1]
  show (true && decide (100 = 100) && inM (Int32.ofNat i) n) = true
  rw [inM_nat (by have := h.2.2; omega), decide_eq_true hi]
  rfl
theorem ar_ln {M : Mem} {a n : Nat} (h : arS M a n) : lnI M a = true := by
  unfold lnI
  rw [h.1, h.2.1]
  rfl
theorem ar_tg {M : Mem} {a n : Nat} (h : arS M a n) : tgM M a = (100, n) := h.2.1
theorem arS_2 {M M' : Mem} {a n : Nat} (e : M'.2 = M.2) (h : arS M a n) : arS M' a n := by
  unfold arS
  rw [ownM_2 e, tgM_2 e]
  exact h
/-- all but ints, and all cells out of lo .. hi, stay -/
def Fr (M M' : Mem) (lo hi : Nat) : Prop := M'.2 = M.2 ∧ ∀ a, a < lo ∨ hi < a → giM M' a = giM M a
theorem Fr_refl (M : Mem) (lo hi : Nat) : Fr M M lo hi := ⟨rfl, fun _ _ => rfl⟩
theorem Fr_tr {M M1 M2 : Mem} {lo hi : Nat} (h : Fr M M1 lo hi) (g : Fr M1 M2 lo hi) : Fr M M2 lo hi := ⟨g.1.trans h.1, fun a ha => (g.2 a ha).trans (h.2 a ha)⟩
theorem Fr_w {M M1 : Mem} {lo hi lo' hi' : Nat} (h : Fr M M1 lo hi) (h1 : lo' ≤ lo) (h2 : hi ≤ hi') : Fr M M1 lo' hi' := ⟨h.1, fun a ha => h.2 a (by omega)⟩
theorem Fr_si {M : Mem} {a i lo hi : Nat} {x : Int32} (h1 : lo ≤ a) (h2 : a ≤ hi) : Fr M (siM M a i x) lo hi := ⟨rfl, fun _ hb => giM_un (by omega)⟩
theorem Fr_sa {M : Mem} {a lo hi : Nat} {g : Nat → Int32} (h1 : lo ≤ a) (h2 : a ≤ hi) : Fr M (saM M a g) lo hi := ⟨rfl, fun _ hb => gi_san (by omega) _⟩
theorem l_0 : (0 : Int32) = nI 0 := rfl
theorem l_1 : (1 : Int32) = nI 1 := rfl
theorem l_2 : (2 : Int32) = nI 2 := rfl
theorem l_3 : (3 : Int32) = nI 3 := rfl
theorem l_4 : (4 : Int32) = nI 4 := rfl
theorem l_5 : (5 : Int32) = nI 5 := rfl
theorem l_6 : (6 : Int32) = nI 6 := rfl
theorem l_7 : (7 : Int32) = nI 7 := rfl
theorem l_8 : (8 : Int32) = nI 8 := rfl
theorem l_9 : (9 : Int32) = nI 9 := rfl
theorem l_10 : (10 : Int32) = nI 10 := rfl
theorem l_16 : (16 : Int32) = nI 16 := rfl
theorem l_17 : (17 : Int32) = nI 17 := rfl
theorem l_18 : (18 : Int32) = nI 18 := rfl
theorem l_20 : (20 : Int32) = nI 20 := rfl
theorem l_23 : (23 : Int32) = nI 23 := rfl
theorem l_24 : (24 : Int32) = nI 24 := rfl
theorem l_30 : (30 : Int32) = nI 30 := rfl
theorem l_31 : (31 : Int32) = nI 31 := rfl
theorem l_32 : (32 : Int32) = nI 32 := rfl
theorem l_39 : (39 : Int32) = nI 39 := rfl
theorem l_40 : (40 : Int32) = nI 40 := rfl
theorem l_41 : (41 : Int32) = nI 41 := rfl
theorem l_48 : (48 : Int32) = nI 48 := rfl
theorem l_57 : (57 : Int32) = nI 57 := rfl
theorem l_58 : (58 : Int32) = nI 58 := rfl
theorem l_59 : (59 : Int32) = nI 59 := rfl
theorem l_60 : (60 : Int32) = nI 60 := rfl
theorem l_63 : (63 : Int32) = nI 63 := rfl
theorem l_90 : (90 : Int32) = nI 90 := rfl
theorem l_97 : (97 : Int32) = nI 97 := rfl
theorem l_98 : (98 : Int32) = nI 98 := rfl
theorem l_99 : (99 : Int32) = nI 99 := rfl
theorem l_100 : (100 : Int32) = nI 100 := rfl
theorem l_102 : (102 : Int32) = nI 102 := rfl
theorem l_103 : (103 : Int32) = nI 103 := rfl
theorem l_104 : (104 : Int32) = nI 104 := rfl
theorem l_107 : (107 : Int32) = nI 107 := rfl
theorem l_109 : (109 : Int32) = nI 109 := rfl
theorem l_112 : (112 : Int32) = nI 112 := rfl
theorem l_115 : (115 : Int32) = nI 115 := rfl
theorem l_116 : (116 : Int32) = nI 116 := rfl
theorem l_117 : (117 : Int32) = nI 117 := rfl
theorem l_120 : (120 : Int32) = nI 120 := rfl
theorem l_122 : (122 : Int32) = nI 122 := rfl
theorem l_126 : (126 : Int32) = nI 126 := rfl
theorem l_166 : (166 : Int32) = nI 166 := rfl
theorem l_180 : (180 : Int32) = nI 180 := rfl
theorem l_240 : (240 : Int32) = nI 240 := rfl
theorem l_255 : (255 : Int32) = nI 255 := rfl
theorem l_640 : (640 : Int32) = nI 640 := rfl
theorem l_999 : (999 : Int32) = nI 999 := rfl
theorem l_2656 : (2656 : Int32) = nI 2656 := rfl
theorem l_3064 : (3064 : Int32) = nI 3064 := rfl
theorem l_3704 : (3704 : Int32) = nI 3704 := rfl
theorem l_3708 : (3708 : Int32) = nI 3708 := rfl
theorem l_3712 : (3712 : Int32) = nI 3712 := rfl
theorem l_3713 : (3713 : Int32) = nI 3713 := rfl
theorem l_3893 : (3893 : Int32) = nI 3893 := rfl
theorem l_155720 : (155720 : Int32) = nI 155720 := rfl
theorem l_1000000 : (1000000 : Int32) = nI 1000000 := rfl
