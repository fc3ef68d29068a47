/-! SCRIPTS RUN: as pure functions. A got: block, by whom, its scope (0: none), held since -/
abbrev GoT : Type := Nat × Nat × Nat × Bool
abbrev RSt : Type := HSt × Nat × Nat × (Nat → GoT)
def lowL (ρ : Rul) (S : HSt) : Option Nat := lo (fun t => decide (lv S t = 1)) 0 (rT ρ)
def whoE (ρ : Rul) (S : HSt) (y : Nat) : Option Nat := if lv S y = 1 then some y else lowL ρ S
def eOne (ρ : Rul) (x : GoT) (S : HSt) : HSt × Bool := match whoE ρ S x.2.1 with
  | none => (S, x.2.2.2)
  | some t => if x.2.2.2 = true then (aFree ρ t (x.1 / 100) (x.1 % 100) S, false) else (S, false)
def eS (ρ : Rul) (d : Nat) : Nat → HSt → (Nat → GoT) → HSt × (Nat → GoT)
  | 0, S, g => (S, g)
  | k + 1, S, g => if (g k).2.2.1 = d then eS ρ d k (eOne ρ (g k) S).1 (ud g k ((g k).1, (g k).2.1, 0, (eOne ρ (g k) S).2)) else eS ρ d k S g
def nt (r : Bool) (e : Nat × Nat × Nat) (S : HSt) : HSt := if r = true then oNote e S else S
def sGet (ρ : Rul) (r : Bool) (y : Nat) (v : Int32) (x : RSt) : Option RSt := if y < rT ρ ∧ lv x.1 y = 1 then (match kcF ρ v with
  | none => none
  | some c => match pgF ρ y c x.1 with
    | none => none
    | some p => some (nt r (100 * p + aBlk ρ y c p x.1, y, hwF y p x.1) (aGet ρ y c p x.1), x.2.1 + 1, x.2.2.1, ud x.2.2.2 x.2.1 (100 * p + aBlk ρ y c p x.1, y, x.2.2.1, true))) else none
def sFree (ρ : Rul) (y z : Nat) (x : RSt) : Option RSt := if (y < rT ρ ∧ lv x.1 y = 1) ∧ z < x.2.1 ∧ (x.2.2.2 z).2.2.2 = true then some (aFree ρ y ((x.2.2.2 z).1 / 100) ((x.2.2.2 z).1 % 100) x.1, x.2.1, x.2.2.1, ud x.2.2.2 z ((x.2.2.2 z).1, (x.2.2.2 z).2.1, (x.2.2.2 z).2.2.1, false)) else none
def stp (ρ : Rul) (r : Bool) (t : StT) (x : RSt) : Option RSt :=
  if t.1 = 0 then sGet ρ r t.2.1 (nI t.2.2) x
  else if t.1 = 1 then sFree ρ t.2.1 t.2.2 x
  else if t.1 = 2 then (if t.2.1 < rT ρ then some (aTurn ρ t.2.1 x.1, x.2) else none)
  else if t.1 = 3 then (if t.2.1 < rT ρ ∧ lv x.1 t.2.1 = 1 then some (aTick ρ t.2.1 x.1, x.2) else none)
  else if t.1 = 4 then (if t.2.1 < rT ρ ∧ lv x.1 t.2.1 = 1 then some (aHomes ρ t.2.1 x.1, x.2) else none)
  else if t.1 = 5 then some (x.1, x.2.1, x.2.2.1 + 1, x.2.2.2)
  else some ((eS ρ x.2.2.1 x.2.1 x.1 x.2.2.2).1, x.2.1, x.2.2.1 - 1, (eS ρ x.2.2.1 x.2.1 x.1 x.2.2.2).2)
/-- a block is held -/
def HB (ρ : Rul) (S : HSt) (b : Nat) : Prop := b / 100 < rP ρ ∧ b % 100 < cut ρ S (b / 100) ∧ b % 100 < 40 ∧ hd S (b / 100) (b % 100) = 1
/-- what holds of the gots -/
def GOK (ρ : Rul) (S : HSt) (n : Nat) (g : Nat → GoT) : Prop := (∀ r, r < n → (g r).2.1 < rT ρ ∧ (g r).1 < 1600 ∧ ((g r).2.2.2 = true → HB ρ S (g r).1)) ∧ ∀ r r', r < n → r' < n → r ≠ r' → (g r).2.2.2 = true → (g r').2.2.2 = true → (g r).1 ≠ (g r').1
section RU
variable {ρ : Rul} {β n d : Nat} {S S' : HSt} {g : Nat → GoT}
theorem HB_KH (hR : RuOK ρ) (h : KH ρ S S') {b : Nat} (q : HB ρ S b) : HB ρ S' b := by
  have hb := ru_b hR
  obtain ⟨h1, h2⟩ := h (b / 100) (by have := q.1; omega) (b % 100) q.2.1 q.2.2.2
  exact ⟨q.1, h1, q.2.2.1, h2⟩
theorem GOK_KH (hR : RuOK ρ) (h : KH ρ S S') (q : GOK ρ S n g) : GOK ρ S' n g := ⟨fun r hr => ⟨(q.1 r hr).1, (q.1 r hr).2.1, fun e => HB_KH hR h ((q.1 r hr).2.2 e)⟩, q.2⟩
theorem ok_tick {t : Nat} (hR : RuOK ρ) (V : OKS ρ β S) (ht : t < rT ρ) : OKS ρ β (aTick ρ t S) := ⟨inv_tick hR ht V.1, bxs_B hR (bxs_tick hR) V.2⟩
theorem ok_homes {t : Nat} (hR : RuOK ρ) (V : OKS ρ β S) (ht : t < rT ρ) : OKS ρ β (aHomes ρ t S) := ⟨inv_homes hR ht V.1, bxs_B hR (bxs_homes hR) V.2⟩
theorem ok_turn {t : Nat} (hR : RuOK ρ) (V : OKS ρ β S) (ht : t < rT ρ) : OKS ρ β (aTurn ρ t S) := ⟨inv_turn hR ht V.1, bxs_B hR (bxs_turn hR) V.2⟩
theorem ok_get {t c p : Nat} (hR : RuOK ρ) (V : OKS ρ β S) (ht : t < rT ρ) (hc : c < rK ρ) (e : pgF ρ t c S = some p) : OKS ρ (β + 1) (aGet ρ t c p S) := by
  have hb := ru_b hR
  have := (pgF_cases hR V.1 ht hc e).1
  exact ⟨inv_get hR V.1 ht hc e, bxs_B hR (bxs_get hR (by omega)) V.2⟩
theorem ok_free {t b : Nat} (hR : RuOK ρ) (V : OKS ρ β S) (ht : t < rT ρ) (h : HB ρ S b) : OKS ρ β (aFree ρ t (b / 100) (b % 100) S) := by
  have hb := ru_b hR
  have h1 := h.1
  exact ⟨inv_free hR ht (by omega) V.2 h.2.1 h.2.2.2 V.1, box_free hR (by omega) (by omega) V.2⟩
theorem dv_ne {a b : Nat} (h : a ≠ b) : ¬ (a / 100 = b / 100 ∧ a % 100 = b % 100) := by omega
theorem HB_free {t b b' : Nat} (hR : RuOK ρ) (V : OKS ρ β S) (ht : t < rT ρ) (h : HB ρ S b) (q : HB ρ S b') (hne : b' ≠ b) : HB ρ (aFree ρ t (b / 100) (b % 100) S) b' := by
  have hb := ru_b hR
  have h1 := h.1
  have q1 := q.1
  obtain ⟨k1, k2⟩ := KH_free hR ht (show b / 100 < 16 by omega) V.2 h.2.1 h.2.2.2 V.1 (b' / 100) (by omega) (b' % 100) (dv_ne hne) q.2.1 q.2.2.2
  exact ⟨q.1, k1, q.2.2.1, k2⟩
theorem GOK_free {t k : Nat} (hR : RuOK ρ) (V : OKS ρ β S) (ht : t < rT ρ) (q : GOK ρ S n g) (hk : k < n) (hh : (g k).2.2.2 = true) (sc : Nat) : GOK ρ (aFree ρ t ((g k).1 / 100) ((g k).1 % 100) S) n (ud g k ((g k).1, (g k).2.1, sc, false)) := by
  refine ⟨fun r hr => ?_, fun r r' hr hr' hne h1 h2 => ?_⟩
  · rw [ud_at]
    by_cases e : r = k
    · rw [if_pos e]
      exact ⟨(q.1 k hk).1, (q.1 k hk).2.1, fun h => by cases h⟩
    · rw [if_neg e]
      exact ⟨(q.1 r hr).1, (q.1 r hr).2.1, fun h => HB_free hR V ht ((q.1 k hk).2.2 hh) ((q.1 r hr).2.2 h) (q.2 r k hr hk e h hh)⟩
  · rw [ud_at] at h1 h2 ⊢
    rw [ud_at]
    by_cases e : r = k
    · rw [if_pos e] at h1; cases h1
    · by_cases e' : r' = k
      · rw [if_pos e'] at h2; cases h2
      · rw [if_neg e] at h1 ⊢
        rw [if_neg e'] at h2 ⊢
        exact q.2 r r' hr hr' hne h1 h2
theorem GOK_sc {k : Nat} (q : GOK ρ S n g) (hk : k < n) (sc : Nat) (b : Bool) (hb : b = true → (g k).2.2.2 = true) : GOK ρ S n (ud g k ((g k).1, (g k).2.1, sc, b)) := by
  refine ⟨fun r hr => ?_, fun r r' hr hr' hne h1 h2 => ?_⟩
  · rw [ud_at]
    by_cases e : r = k
    · rw [if_pos e]
      exact ⟨(q.1 k hk).1, (q.1 k hk).2.1, fun h => (q.1 k hk).2.2 (hb h)⟩
    · rw [if_neg e]
      exact q.1 r hr
  · rw [ud_at] at h1 h2 ⊢
    rw [ud_at]
    by_cases e : r = k
    · rw [if_pos e] at h1 ⊢
      by_cases e' : r' = k
      · exact absurd (e.trans e'.symm) hne
      · rw [if_neg e'] at h2 ⊢
        exact q.2 k r' hk hr' (fun h => e' h.symm) (hb h1) h2
    · rw [if_neg e] at h1 ⊢
      by_cases e' : r' = k
      · rw [if_pos e'] at h2 ⊢
        exact q.2 r k hr hk e h1 (hb h2)
      · rw [if_neg e'] at h2 ⊢
        exact q.2 r r' hr hr' hne h1 h2
theorem who_lt {y t : Nat} (h : y < rT ρ) (e : whoE ρ S y = some t) : t < rT ρ ∧ lv S t = 1 := by
  unfold whoE at e
  split at e
  · next hl =>
    obtain rfl := Option.some.inj e
    exact ⟨h, hl⟩
  · have := lo_spec e
    exact ⟨by omega, of_decide_eq_true this.2.2⟩
theorem e1_ok {k : Nat} (hR : RuOK ρ) (V : OKS ρ β S) (q : GOK ρ S n g) (hk : k < n) : OKS ρ β (eOne ρ (g k) S).1 ∧ GOK ρ (eOne ρ (g k) S).1 n (ud g k ((g k).1, (g k).2.1, 0, (eOne ρ (g k) S).2)) := by
  unfold eOne
  cases e : whoE ρ S (g k).2.1 with
  | none => exact ⟨V, GOK_sc q hk 0 _ (fun h => h)⟩
  | some t =>
    have ht := who_lt (q.1 k hk).1 e
    by_cases h : (g k).2.2.2 = true
    · show OKS ρ β (if (g k).2.2.2 = true then (aFree ρ t ((g k).1 / 100) ((g k).1 % 100) S, false) else (S, false)).1 ∧ GOK ρ (if (g k).2.2.2 = true then (aFree ρ t ((g k).1 / 100) ((g k).1 % 100) S, false) else (S, false)).1 n (ud g k ((g k).1, (g k).2.1, 0, (if (g k).2.2.2 = true then (aFree ρ t ((g k).1 / 100) ((g k).1 % 100) S, false) else (S, false)).2))
      rw [if_pos h]
      exact ⟨ok_free hR V ht.1 ((q.1 k hk).2.2 h), GOK_free hR V ht.1 q hk h 0⟩
    · show OKS ρ β (if (g k).2.2.2 = true then (aFree ρ t ((g k).1 / 100) ((g k).1 % 100) S, false) else (S, false)).1 ∧ GOK ρ (if (g k).2.2.2 = true then (aFree ρ t ((g k).1 / 100) ((g k).1 % 100) S, false) else (S, false)).1 n (ud g k ((g k).1, (g k).2.1, 0, (if (g k).2.2.2 = true then (aFree ρ t ((g k).1 / 100) ((g k).1 % 100) S, false) else (S, false)).2))
      rw [if_neg h]
      exact ⟨V, GOK_sc q hk 0 false (fun h => by cases h)⟩
theorem eS_ok (hR : RuOK ρ) : ∀ k S g, k ≤ n → OKS ρ β S → GOK ρ S n g → OKS ρ β (eS ρ d k S g).1 ∧ GOK ρ (eS ρ d k S g).1 n (eS ρ d k S g).2
  | 0, S, g, _, V, q => ⟨V, q⟩
  | k + 1, S, g, hk, V, q => by
    unfold eS
    split
    · obtain ⟨V1, q1⟩ := e1_ok hR V q (show k < n by omega)
      exact eS_ok hR k _ _ (by omega) V1 q1
    · exact eS_ok hR k S g (by omega) V q
theorem ok_note {r : Bool} {e : Nat × Nat × Nat} (V : OKS ρ β S) (h1 : e.1 < 1600) (h2 : e.2.1 < 4) (h3 : e.2.2 ≤ 5) : OKS ρ β (nt r e S) := by
  unfold nt
  split
  · exact ⟨inv_note V.1 ⟨h1, h2, h3⟩, V.2⟩
  · exact V
theorem nt_KH {r : Bool} {e : Nat × Nat × Nat} : KH ρ S (nt r e S) := by
  unfold nt
  split
  · exact KH_same rfl rfl (fun _ _ => Iff.rfl)
  · exact KH_refl
theorem get_ok {r : Bool} {y : Nat} {v : Int32} {x : RSt} (hR : RuOK ρ) (V : OKS ρ β S) (q : GOK ρ S n g) (h : sGet ρ r y v (S, n, d, g) = some x) : OKS ρ (β + 1) x.1 ∧ GOK ρ x.1 x.2.1 x.2.2.2 ∧ x.2.1 = n + 1 ∧ x.2.2.1 = d := by
  have hb := ru_b hR
  unfold sGet at h
  split at h
  · next hy =>
    split at h
    · cases h
    · next c hk =>
      have hc := kcF_lt hk
      split at h
      · cases h
      · next p hp =>
        obtain rfl := Option.some.inj h
        have hp : pgF ρ y c S = some p := hp
        have pc := (pgF_cases hR V.1 hy.1 hc hp).1
        have hbk := aBlk_lt hR V.1 hy.1 hc hp
        have V1 := ok_get hR V hy.1 hc hp
        obtain ⟨k1, k2, k3⟩ := KH_get hR V.1 hy.1 hc hp
        have V2 : OKS ρ (β + 1) (nt r (100 * p + aBlk ρ y c p S, y, hwF y p S) (aGet ρ y c p S)) := ok_note V1 (by show 100 * p + aBlk ρ y c p S < 1600; omega) (by show y < 4; have := hy.1; omega) hwF_le
        have q1 : GOK ρ (nt r (100 * p + aBlk ρ y c p S, y, hwF y p S) (aGet ρ y c p S)) n g := GOK_KH hR (KH_tr k1 nt_KH) q
        have e1 : (100 * p + aBlk ρ y c p S) / 100 = p := by omega
        have e2 : (100 * p + aBlk ρ y c p S) % 100 = aBlk ρ y c p S := by omega
        have nb : HB ρ (nt r (100 * p + aBlk ρ y c p S, y, hwF y p S) (aGet ρ y c p S)) (100 * p + aBlk ρ y c p S) := by
          refine HB_KH hR nt_KH ?_
          unfold HB
          rw [e1, e2]
          exact ⟨pc, k2.1, hbk, k2.2⟩
        have old : ∀ r', r' < n → (g r').2.2.2 = true → (g r').1 ≠ 100 * p + aBlk ρ y c p S := fun r' hr' hh e => by
          have := (q.1 r' hr').2.2 hh
          rw [e] at this
          unfold HB at this
          rw [e1, e2] at this
          exact k3 ⟨this.2.1, this.2.2.2⟩
        refine ⟨V2, ⟨fun r' hr' => ?_, fun r1 r2 h1 h2 hne g1 g2 => ?_⟩, rfl, rfl⟩
        · have hr' : r' < n + 1 := hr'
          show (ud g n (100 * p + aBlk ρ y c p S, y, d, true) r').2.1 < rT ρ ∧ (ud g n (100 * p + aBlk ρ y c p S, y, d, true) r').1 < 1600 ∧ ((ud g n (100 * p + aBlk ρ y c p S, y, d, true) r').2.2.2 = true → HB ρ (nt r (100 * p + aBlk ρ y c p S, y, hwF y p S) (aGet ρ y c p S)) (ud g n (100 * p + aBlk ρ y c p S, y, d, true) r').1)
          rw [ud_at]
          by_cases e : r' = n
          · rw [if_pos e]
            exact ⟨hy.1, by show 100 * p + aBlk ρ y c p S < 1600; omega, fun _ => nb⟩
          · rw [if_neg e]
            exact q1.1 r' (by omega)
        · have h1 : r1 < n + 1 := h1
          have h2 : r2 < n + 1 := h2
          have g1 : (ud g n (100 * p + aBlk ρ y c p S, y, d, true) r1).2.2.2 = true := g1
          have g2 : (ud g n (100 * p + aBlk ρ y c p S, y, d, true) r2).2.2.2 = true := g2
          show (ud g n (100 * p + aBlk ρ y c p S, y, d, true) r1).1 ≠ (ud g n (100 * p + aBlk ρ y c p S, y, d, true) r2).1
          rw [ud_at] at g1 g2 ⊢
          rw [ud_at]
          by_cases e : r1 = n
          · by_cases e' : r2 = n
            · exact absurd (e.trans e'.symm) hne
            · rw [if_neg e'] at g2 ⊢
              rw [if_pos e]
              exact fun h => old r2 (by omega) g2 h.symm
          · rw [if_neg e] at g1 ⊢
            by_cases e' : r2 = n
            · rw [if_pos e']
              exact old r1 (by omega) g1
            · rw [if_neg e'] at g2 ⊢
              exact q.2 r1 r2 (by omega) (by omega) hne g1 g2
  · cases h
theorem stp_ok {r : Bool} {t : StT} {x : RSt} (hR : RuOK ρ) (V : OKS ρ β S) (q : GOK ρ S n g) (h : stp ρ r t (S, n, d, g) = some x) (h6 : t.1 ≤ 6) : OKS ρ (β + 1) x.1 ∧ GOK ρ x.1 x.2.1 x.2.2.2 ∧ x.2.1 ≤ n + 1 ∧ x.2.2.1 = scp t.1 d := by
  have m1 : β ≤ β + 1 := Nat.le_succ β
  unfold stp at h
  unfold scp
  split at h
  · next e =>
    obtain ⟨k1, k2, k3, k4⟩ := get_ok hR V q h
    rw [if_neg (by omega), if_neg (by omega)]
    exact ⟨k1, k2, by omega, k4⟩
  · split at h
    · next e =>
      unfold sFree at h
      split at h
      · next hy =>
        obtain rfl := Option.some.inj h
        rw [if_neg (by omega), if_neg (by omega)]
        exact ⟨OKS_mono m1 (ok_free hR V hy.1.1 ((q.1 _ hy.2.1).2.2 hy.2.2)), GOK_free hR V hy.1.1 q hy.2.1 hy.2.2 _, by show n ≤ n + 1; omega, rfl⟩
      · cases h
    · split at h
      · next e =>
        split at h
        · next hy =>
          obtain rfl := Option.some.inj h
          rw [if_neg (by omega), if_neg (by omega)]
          exact ⟨OKS_mono m1 (ok_turn hR V hy), GOK_KH hR (KH_turn hR V.1 hy) q, by show n ≤ n + 1; omega, rfl⟩
        · cases h
      · split at h
        · next e =>
          split at h
          · next hy =>
            obtain rfl := Option.some.inj h
            rw [if_neg (by omega), if_neg (by omega)]
            exact ⟨OKS_mono m1 (ok_tick hR V hy.1), GOK_KH hR (KH_tick hR V.1 hy.1) q, by show n ≤ n + 1; omega, rfl⟩
          · cases h
        · split at h
          · next e =>
            split at h
            · next hy =>
              obtain rfl := Option.some.inj h
              rw [if_neg (by omega), if_neg (by omega)]
              exact ⟨OKS_mono m1 (ok_homes hR V hy.1), GOK_KH hR (KH_homes hR V.1 hy.1) q, by show n ≤ n + 1; omega, rfl⟩
            · cases h
          · split at h
            · next e =>
              obtain rfl := Option.some.inj h
              rw [if_pos e]
              exact ⟨OKS_mono m1 V, q, by show n ≤ n + 1; omega, rfl⟩
            · obtain rfl := Option.some.inj h
              obtain ⟨k1, k2⟩ := eS_ok (d := d) hR n S g (Nat.le_refl n) V q
              rw [if_neg (by omega), if_pos (by omega)]
              exact ⟨OKS_mono m1 k1, k2, by show n ≤ n + 1; omega, rfl⟩
end RU
