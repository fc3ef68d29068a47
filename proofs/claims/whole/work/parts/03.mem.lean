/-! THE PURE MEMORY: cells by number (1 .. cnM), ints, references (0: null), longs, kind and length of each cell, how many there are. Cells above 5000 are old ones that are only read. -/
abbrev Mem : Type := (Nat → Nat → Int32) × (Nat → Nat → Nat) × (Nat → Nat → Int64) × (Nat → Nat × Nat) × Nat
def giM (M : Mem) (a i : Nat) : Int32 := M.1 a i
def grM (M : Mem) (a i : Nat) : Nat := M.2.1 a i
def glM (M : Mem) (a i : Nat) : Int64 := M.2.2.1 a i
def tgM (M : Mem) (a : Nat) : Nat × Nat := M.2.2.2.1 a
def cnM (M : Mem) : Nat := M.2.2.2.2
def up2 {α : Type} (f : Nat → Nat → α) (a i : Nat) (x : α) : Nat → Nat → α := fun b j => if b = a ∧ j = i then x else f b j
def upA {α : Type} (f : Nat → Nat → α) (a : Nat) (g : Nat → α) : Nat → Nat → α := fun b => if b = a then g else f b
def siM (M : Mem) (a i : Nat) (x : Int32) : Mem := (up2 M.1 a i x, M.2)
def srM (M : Mem) (a i : Nat) (x : Nat) : Mem := (M.1, up2 M.2.1 a i x, M.2.2)
def slM (M : Mem) (a i : Nat) (x : Int64) : Mem := (M.1, M.2.1, up2 M.2.2.1 a i x, M.2.2.2)
def saM (M : Mem) (a : Nat) (g : Nat → Int32) : Mem := (upA M.1 a g, M.2)
/-- a new cell: all of it nought -/
def nwM (M : Mem) : Mem := (upA M.1 (cnM M + 1) (fun _ => 0), upA M.2.1 (cnM M + 1) (fun _ => 0), upA M.2.2.1 (cnM M + 1) (fun _ => 0), M.2.2.2.1, cnM M + 1)
theorem up2_s {α : Type} {f : Nat → Nat → α} {a i : Nat} {x : α} : up2 f a i x a i = x := by simp [up2]
theorem up2_n {α : Type} {f : Nat → Nat → α} {a i b j : Nat} {x : α} (h : ¬ (b = a ∧ j = i)) : up2 f a i x b j = f b j := if_neg h
theorem up2_row {α : Type} {f : Nat → Nat → α} {a i b : Nat} {x : α} (h : b ≠ a) : up2 f a i x b = f b := by
  funext j; exact if_neg (fun q => h q.1)
theorem up2_own {α : Type} {f : Nat → Nat → α} {a i : Nat} {x : α} : up2 f a i x a = fun j => if j = i then x else f a j := by
  funext j; simp [up2]
theorem upA_s {α : Type} {f : Nat → Nat → α} {a : Nat} {g : Nat → α} : upA f a g a = g := if_pos rfl
theorem upA_n {α : Type} {f : Nat → Nat → α} {a b : Nat} {g : Nat → α} (h : b ≠ a) : upA f a g b = f b := if_neg h
/-- which reads and writes are within -/
def inM (i : Int32) (n : Nat) : Bool := decide (0 ≤ i.toInt ∧ i.toInt < (n : Int))
def ownM (M : Mem) (a : Nat) : Bool := decide (0 < a ∧ a ≤ cnM M)
def extM (a : Nat) : Bool := decide (5000 < a ∧ a ≤ 5006)
def obM (M : Mem) (a t n : Nat) : Bool := ownM M a && decide (tgM M a = (t, n))
def rdI (M : Mem) (a : Nat) (i : Int32) : Bool := (ownM M a || extM a) && decide ((tgM M a).1 = 100) && inM i (tgM M a).2
def wrI (M : Mem) (a : Nat) (i : Int32) : Bool := ownM M a && decide ((tgM M a).1 = 100) && inM i (tgM M a).2
def wrT (t : Nat) (M : Mem) (a : Nat) (i : Int32) : Bool := ownM M a && decide ((tgM M a).1 = t) && inM i (tgM M a).2
def lnI (M : Mem) (a : Nat) : Bool := (ownM M a || extM a) && decide ((tgM M a).1 = 100)
def lnT (t : Nat) (M : Mem) (a : Nat) : Bool := ownM M a && decide ((tgM M a).1 = t)
theorem inM_in {i : Int32} {n : Nat} (h : inM i n = true) : vp_in i n := vp_in_iff.mpr (of_decide_eq_true h)
theorem ownM_p {M : Mem} {a : Nat} (h : ownM M a = true) : 0 < a ∧ a ≤ cnM M := of_decide_eq_true h
theorem extM_p {a : Nat} (h : extM a = true) : 5000 < a ∧ a ≤ 5006 := of_decide_eq_true h
/-- the pure run goes on behind a test -/
theorem iteN {α : Type} {c : Prop} [Decidable c] {t : Option α} {r : α} (h : (if c then t else none) = some r) : c ∧ t = some r := by
  by_cases hc : c
  · rw [if_pos hc] at h; exact ⟨hc, h⟩
  · rw [if_neg hc] at h; cases h
theorem bindN {α β : Type} {x : Option α} {f : α → Option β} {r : β} (h : x.bind f = some r) : ∃ y, x = some y ∧ f y = some r := by
  cases x with
  | none => cases h
  | some y => exact ⟨y, rfl, h⟩
/-! cells as the kit has them -/
def rvM (ad : Nat → Nat) (v : Value) : Value := match v with
  | .ref a => .ref (ad a)
  | v => v
theorem rvM_cat (ad : Nat → Nat) (v : Value) : (rvM ad v).category = v.category := by cases v <;> rfl
def rfM (ad : Nat → Nat) (r : Nat) : Option Nat := if r = 0 then none else some (ad r)
theorem rfM_p {ad : Nat → Nat} {r : Nat} (h : r ≠ 0) : va_rf (rfM ad r) = .ref (ad r) := by
  unfold rfM; rw [if_neg h]; rfl
def fvM (ad : Nat → Nat) (M : Mem) (t a k : Nat) : Value := match ftM t k with
  | 0 => .int (giM M a k)
  | 1 => .long (glM M a k)
  | _ => va_rf (rfM ad (grM M a k))
def ceM (ad : Nat → Nat) (cA : Nat → ClassId) (M : Mem) (a : Nat) : va_E :=
  if (tgM M a).1 < 100 then .inr ((tgM M a).1, (List.range (tgM M a).2).map (fun k => fvM ad M (tgM M a).1 a k))
  else if (tgM M a).1 < 102 then .inl (cA ((tgM M a).1 - 100), (tgM M a).2, .inl (giM M a))
  else if (tgM M a).1 = 102 then .inl (cA 2, (tgM M a).2, .inr (.inl (glM M a)))
  else .inl (cA ((tgM M a).1 - 100), (tgM M a).2, .inr (.inr (.inr (.inr (fun j => rfM ad (grM M a j))))))
/-- the world: start, class numbers, array classes, addresses, whether cells are still being made -/
abbrev GXM : Type := State × va_G × (Nat → ClassId) × (Nat → Nat) × Bool
def wsM (G : GXM) (M : Mem) : va_W := (List.range (cnM M)).map (fun i => (G.2.2.2.1 (i + 1), ceM G.2.2.2.1 G.2.2.1 M (i + 1)))
def tysM (cA : Nat → ClassId) : List (ClassId × FieldType) := [(cA 0, .int), (cA 1, .boolean), (cA 2, .long), (cA 3, .object "HomeFreed$Heap"), (cA 4, .object "HomeFreed$Script"), (cA 5, .object "HomeFreed$Progress")]
theorem wsM_at {G : GXM} {M : Mem} {a : Nat} (h : ownM M a = true) : (wsM G M)[a - 1]? = some (G.2.2.2.1 a, ceM G.2.2.2.1 G.2.2.1 M a) := by
  obtain ⟨h1, h2⟩ := ownM_p h
  have e : a - 1 + 1 = a := by omega
  unfold wsM
  rw [List.getElem?_map, List.getElem?_range (by omega)]
  show some (G.2.2.2.1 (a - 1 + 1), ceM _ _ M (a - 1 + 1)) = _
  rw [e]
theorem wsM_set {G : GXM} {M M1 : Mem} {a : Nat} {e : va_E} (h : ownM M a = true) (hc : cnM M1 = cnM M) (he : ceM G.2.2.2.1 G.2.2.1 M1 a = e) (ho : ∀ b, b ≠ a → ceM G.2.2.2.1 G.2.2.1 M1 b = ceM G.2.2.2.1 G.2.2.1 M b) : (wsM G M).set (a - 1) (G.2.2.2.1 a, e) = wsM G M1 := by
  obtain ⟨h1, h2⟩ := ownM_p h
  apply List.ext_getElem?
  intro j
  unfold wsM
  rw [hc, List.getElem?_set, List.getElem?_map, List.getElem?_map]
  by_cases hj : a - 1 = j
  · subst hj
    have e1 : a - 1 + 1 = a := by omega
    rw [if_pos rfl, if_pos (by simp; omega), List.getElem?_range (by omega)]
    show _ = some (G.2.2.2.1 (a - 1 + 1), ceM _ _ M1 (a - 1 + 1))
    rw [e1, he]
  · rw [if_neg hj]
    by_cases hl : j < cnM M
    · rw [List.getElem?_range hl]
      show some (G.2.2.2.1 (j + 1), ceM _ _ M (j + 1)) = some (G.2.2.2.1 (j + 1), ceM _ _ M1 (j + 1))
      rw [ho (j + 1) (by omega)]
    · rw [List.getElem?_eq_none (by simp; omega)]; rfl
theorem ceM_ob {ad : Nat → Nat} {cA : Nat → ClassId} {M : Mem} {a t n : Nat} (h : tgM M a = (t, n)) (ht : t < 100) : ceM ad cA M a = .inr (t, (List.range n).map (fun k => fvM ad M t a k)) := by
  unfold ceM; rw [h]; exact if_pos ht
theorem ceM_in {ad : Nat → Nat} {cA : Nat → ClassId} {M : Mem} {a : Nat} (h : (tgM M a).1 = 100) : ceM ad cA M a = .inl (cA 0, (tgM M a).2, .inl (giM M a)) := by
  unfold ceM; rw [h]; rfl
theorem ceM_bo {ad : Nat → Nat} {cA : Nat → ClassId} {M : Mem} {a : Nat} (h : (tgM M a).1 = 101) : ceM ad cA M a = .inl (cA 1, (tgM M a).2, .inl (giM M a)) := by
  unfold ceM; rw [h]; rfl
theorem ceM_lo {ad : Nat → Nat} {cA : Nat → ClassId} {M : Mem} {a : Nat} (h : (tgM M a).1 = 102) : ceM ad cA M a = .inl (cA 2, (tgM M a).2, .inr (.inl (glM M a))) := by
  unfold ceM; rw [h]; rfl
theorem ceM_re {ad : Nat → Nat} {cA : Nat → ClassId} {M : Mem} {a t : Nat} (h : (tgM M a).1 = t) (ht : 103 ≤ t) : ceM ad cA M a = .inl (cA (t - 100), (tgM M a).2, .inr (.inr (.inr (.inr (fun j => rfM ad (grM M a j)))))) := by
  unfold ceM
  rw [h, if_neg (by omega), if_neg (by omega), if_neg (by omega)]
theorem ceM_eq {ad : Nat → Nat} {cA : Nat → ClassId} {M M1 : Mem} {a : Nat} (ht : tgM M1 a = tgM M a) (hi : giM M1 a = giM M a) (hr : grM M1 a = grM M a) (hl : glM M1 a = glM M a) : ceM ad cA M1 a = ceM ad cA M a := by
  unfold ceM fvM
  rw [ht, hi, hr, hl]
theorem giM_si_row {M : Mem} {a i b : Nat} {x : Int32} (h : b ≠ a) : giM (siM M a i x) b = giM M b := up2_row h
theorem giM_si_own {M : Mem} {a i : Nat} {x : Int32} : giM (siM M a i x) a = fun j => if j = i then x else giM M a j := up2_own
theorem giM_si_s {M : Mem} {a i : Nat} {x : Int32} : giM (siM M a i x) a i = x := up2_s
theorem giM_si_n {M : Mem} {a i b j : Nat} {x : Int32} (h : ¬ (b = a ∧ j = i)) : giM (siM M a i x) b j = giM M b j := up2_n h
theorem giM_si (M : Mem) (a i b j : Nat) (x : Int32) : giM (siM M a i x) b j = if b = a ∧ j = i then x else giM M b j := rfl
theorem grM_si (M : Mem) (a i : Nat) (x : Int32) : grM (siM M a i x) = grM M := rfl
theorem glM_si (M : Mem) (a i : Nat) (x : Int32) : glM (siM M a i x) = glM M := rfl
theorem tgM_si (M : Mem) (a i : Nat) (x : Int32) : tgM (siM M a i x) = tgM M := rfl
theorem cnM_si (M : Mem) (a i : Nat) (x : Int32) : cnM (siM M a i x) = cnM M := rfl
theorem ownM_si (M : Mem) (a i : Nat) (x : Int32) (b : Nat) : ownM (siM M a i x) b = ownM M b := rfl
theorem grM_sa (M : Mem) (a : Nat) (g : Nat → Int32) : grM (saM M a g) = grM M := rfl
theorem glM_sa (M : Mem) (a : Nat) (g : Nat → Int32) : glM (saM M a g) = glM M := rfl
theorem tgM_sa (M : Mem) (a : Nat) (g : Nat → Int32) : tgM (saM M a g) = tgM M := rfl
theorem cnM_sa (M : Mem) (a : Nat) (g : Nat → Int32) : cnM (saM M a g) = cnM M := rfl
theorem giM_sa_s {M : Mem} {a : Nat} {g : Nat → Int32} : giM (saM M a g) a = g := upA_s
theorem giM_sa_n {M : Mem} {a b : Nat} {g : Nat → Int32} (h : b ≠ a) : giM (saM M a g) b = giM M b := upA_n h
theorem giM_sr (M : Mem) (a i x : Nat) : giM (srM M a i x) = giM M := rfl
theorem glM_sr (M : Mem) (a i x : Nat) : glM (srM M a i x) = glM M := rfl
theorem tgM_sr (M : Mem) (a i x : Nat) : tgM (srM M a i x) = tgM M := rfl
theorem cnM_sr (M : Mem) (a i x : Nat) : cnM (srM M a i x) = cnM M := rfl
theorem grM_sr (M : Mem) (a i x b j : Nat) : grM (srM M a i x) b j = if b = a ∧ j = i then x else grM M b j := rfl
theorem giM_sl (M : Mem) (a i : Nat) (x : Int64) : giM (slM M a i x) = giM M := rfl
theorem grM_sl (M : Mem) (a i : Nat) (x : Int64) : grM (slM M a i x) = grM M := rfl
theorem tgM_sl (M : Mem) (a i : Nat) (x : Int64) : tgM (slM M a i x) = tgM M := rfl
theorem cnM_sl (M : Mem) (a i : Nat) (x : Int64) : cnM (slM M a i x) = cnM M := rfl
theorem glM_sl (M : Mem) (a i : Nat) (x : Int64) (b j : Nat) : glM (slM M a i x) b j = if b = a ∧ j = i then x else glM M b j := rfl
/-! the cells behind a write -/
theorem fsM_get {ad : Nat → Nat} {M : Mem} {t a n k : Nat} (hk : k < n) : ((List.range n).map (fun k => fvM ad M t a k))[k]? = some (fvM ad M t a k) := by
  rw [List.getElem?_map, List.getElem?_range hk]; rfl
theorem fsM_set {f g : Nat → Value} {n k : Nat} {v : Value} (hk : g k = v) (ho : ∀ j, j ≠ k → g j = f j) : ((List.range n).map f).set k v = (List.range n).map g := by
  apply List.ext_getElem?
  intro j
  rw [List.getElem?_set, List.getElem?_map, List.getElem?_map]
  by_cases hj : k = j
  · subst hj
    rw [if_pos rfl]
    by_cases hl : k < n
    · rw [if_pos (by simpa using hl), List.getElem?_range hl]
      show some v = some (g k)
      rw [hk]
    · rw [if_neg (by simpa using hl), List.getElem?_eq_none (by simpa using hl)]; rfl
  · rw [if_neg hj]
    by_cases hl : j < n
    · rw [List.getElem?_range hl]
      show some (f j) = some (g j)
      rw [ho j (Ne.symm hj)]
    · rw [List.getElem?_eq_none (by simpa using hl)]; rfl
