/-! SCRIPTS RUN: the log changes nothing -/
section LG2
variable {ρ : Rul} {n d : Nat} {S : HSt} {f : List (Nat × Nat × Nat)} {g : Nat → GoT}
theorem aFree_wlg (ρ : Rul) (t p b : Nat) (S : HSt) (f : List (Nat × Nat × Nat)) : aFree ρ t p b (wlg S f) = wlg (aFree ρ t p b S) f := by
  have hl : aLoc ρ p b (wlg S f) = wlg (aLoc ρ p b S) f := by
    unfold aLoc
    by_cases h : kd S p = 2
    · rw [if_pos h, if_pos (show kd (wlg S f) p = 2 from h)]
      rfl
    · rw [if_neg h, if_neg (show ¬ kd (wlg S f) p = 2 from h)]
      rfl
  have hx : aBox t p b (wlg S f) = wlg (aBox t p b S) f := rfl
  unfold aFree
  rw [hl, hx]
  by_cases h1 : (kd S p = 1 ∨ kd S p = 2) ∧ ow S p = t
  · rw [if_pos h1, if_pos (show (kd (wlg S f) p = 1 ∨ kd (wlg S f) p = 2) ∧ ow (wlg S f) p = t from h1)]
    by_cases h2 : usd ρ (aLoc ρ p b S) p = 0 ∧ 1 < (qu (aLoc ρ p b S) (6 * t + cl S p)).length
    · rw [if_pos h2, if_pos (show usd ρ (wlg (aLoc ρ p b S) f) p = 0 ∧ 1 < (qu (wlg (aLoc ρ p b S) f) (6 * t + cl (wlg S f) p)).length from h2), oEmpty_wlg]
    · rw [if_neg h2, if_neg (show ¬ (usd ρ (wlg (aLoc ρ p b S) f) p = 0 ∧ 1 < (qu (wlg (aLoc ρ p b S) f) (6 * t + cl (wlg S f) p)).length) from h2)]
  · rw [if_neg h1, if_neg (show ¬ ((kd (wlg S f) p = 1 ∨ kd (wlg S f) p = 2) ∧ ow (wlg S f) p = t) from h1)]
    by_cases h2 : (bl S (48 + 16 * t + p)).length + 1 < rB ρ
    · rw [if_pos h2, if_pos (show (bl (wlg S f) (48 + 16 * t + p)).length + 1 < rB ρ from h2)]
    · rw [if_neg h2, if_neg (show ¬ (bl (wlg S f) (48 + 16 * t + p)).length + 1 < rB ρ from h2), aHome_wlg]
theorem aTurn_wlg (ρ : Rul) (t : Nat) (S : HSt) (f : List (Nat × Nat × Nat)) : aTurn ρ t (wlg S f) = wlg (aTurn ρ t S) f := by
  unfold aTurn
  rw [aTurns_wlg]
  by_cases h : lv S t = 1
  · rw [if_pos h, if_pos (show lv (wlg S f) t = 1 from h)]
    rfl
  · rw [if_neg h, if_neg (show ¬ lv (wlg S f) t = 1 from h)]
    rfl
theorem eOne_wlg (x : GoT) (S : HSt) : eOne ρ x (wlg S f) = (wlg (eOne ρ x S).1 f, (eOne ρ x S).2) := by
  unfold eOne
  have hw : whoE ρ (wlg S f) x.2.1 = whoE ρ S x.2.1 := rfl
  rw [hw]
  cases whoE ρ S x.2.1 with
  | none => rfl
  | some t =>
    show (if x.2.2.2 = true then (aFree ρ t (x.1 / 100) (x.1 % 100) (wlg S f), false) else (wlg S f, false)) = (wlg (if x.2.2.2 = true then (aFree ρ t (x.1 / 100) (x.1 % 100) S, false) else (S, false)).1 f, (if x.2.2.2 = true then (aFree ρ t (x.1 / 100) (x.1 % 100) S, false) else (S, false)).2)
    by_cases h : x.2.2.2 = true
    · rw [if_pos h, if_pos h, aFree_wlg]
    · rw [if_neg h, if_neg h]
theorem eS_wlg : ∀ (k : Nat) (S : HSt) (g : Nat → GoT), eS ρ d k (wlg S f) g = (wlg (eS ρ d k S g).1 f, (eS ρ d k S g).2)
  | 0, S, g => rfl
  | k + 1, S, g => by
    unfold eS
    by_cases h : (g k).2.2.1 = d
    · rw [if_pos h, if_pos h, eOne_wlg, eS_wlg k]
    · rw [if_neg h, if_neg h, eS_wlg k]
theorem stp_lg (r : Bool) (t : StT) : (stp ρ r t (wlg S f, n, d, g) = none ∧ stp ρ false t (S, n, d, g) = none) ∨ ∃ f' x, stp ρ r t (wlg S f, n, d, g) = some (wlg x.1 f', x.2) ∧ stp ρ false t (S, n, d, g) = some x ∧ (r = false → f' = f) := by
  unfold stp
  by_cases w0 : t.1 = 0
  · rw [if_pos w0, if_pos w0]
    unfold sGet
    show ((if t.2.1 < rT ρ ∧ lv S t.2.1 = 1 then _ else none) = none ∧ _) ∨ ∃ f' , ∃ x : RSt, (if t.2.1 < rT ρ ∧ lv S t.2.1 = 1 then _ else none) = some (wlg x.1 f', x.2) ∧ _
    by_cases hy : t.2.1 < rT ρ ∧ lv S t.2.1 = 1
    · rw [if_pos hy, if_pos (show t.2.1 < rT ρ ∧ lv (S, n, d, g).1 t.2.1 = 1 from hy)]
      cases kcF ρ (nI t.2.2) with
      | none => exact Or.inl ⟨rfl, rfl⟩
      | some c =>
        show ((match pgF ρ t.2.1 c S with | none => none | some p => _) = none ∧ (match pgF ρ t.2.1 c S with | none => none | some p => _) = none) ∨ ∃ f', ∃ x : RSt, (match pgF ρ t.2.1 c S with | none => none | some p => _) = some (wlg x.1 f', x.2) ∧ (match pgF ρ t.2.1 c S with | none => none | some p => _) = some x ∧ _
        cases pgF ρ t.2.1 c S with
        | none => exact Or.inl ⟨rfl, rfl⟩
        | some p =>
          right
          cases r with
          | true =>
            refine ⟨((100 * p + aBlk ρ t.2.1 c p S, t.2.1, hwF t.2.1 p S) :: f).take 60, _, ?_, rfl, fun h => by cases h⟩
            show some (oNote (100 * p + aBlk ρ t.2.1 c p (wlg S f), t.2.1, hwF t.2.1 p (wlg S f)) (aGet ρ t.2.1 c p (wlg S f)), n + 1, d, ud g n (100 * p + aBlk ρ t.2.1 c p (wlg S f), t.2.1, d, true)) = _
            rw [aBlk_wlg, aGet_wlg, hwF_wlg]
            rfl
          | false =>
            refine ⟨f, _, ?_, rfl, fun _ => rfl⟩
            show some (aGet ρ t.2.1 c p (wlg S f), n + 1, d, ud g n (100 * p + aBlk ρ t.2.1 c p (wlg S f), t.2.1, d, true)) = _
            rw [aBlk_wlg, aGet_wlg]
            rfl
    · rw [if_neg hy, if_neg (show ¬ (t.2.1 < rT ρ ∧ lv (S, n, d, g).1 t.2.1 = 1) from hy)]
      exact Or.inl ⟨rfl, rfl⟩
  · rw [if_neg w0, if_neg w0]
    by_cases w1 : t.1 = 1
    · rw [if_pos w1, if_pos w1]
      unfold sFree
      by_cases hy : (t.2.1 < rT ρ ∧ lv S t.2.1 = 1) ∧ t.2.2 < n ∧ (g t.2.2).2.2.2 = true
      · right
        rw [if_pos (show (t.2.1 < rT ρ ∧ lv (wlg S f, n, d, g).1 t.2.1 = 1) ∧ t.2.2 < (wlg S f, n, d, g).2.1 ∧ ((wlg S f, n, d, g).2.2.2 t.2.2).2.2.2 = true from hy), if_pos (show (t.2.1 < rT ρ ∧ lv (S, n, d, g).1 t.2.1 = 1) ∧ t.2.2 < (S, n, d, g).2.1 ∧ ((S, n, d, g).2.2.2 t.2.2).2.2.2 = true from hy)]
        refine ⟨f, _, ?_, rfl, fun _ => rfl⟩
        show some (aFree ρ t.2.1 ((g t.2.2).1 / 100) ((g t.2.2).1 % 100) (wlg S f), _) = _
        rw [aFree_wlg]
      · left
        exact ⟨if_neg hy, if_neg hy⟩
    · rw [if_neg w1, if_neg w1]
      by_cases w2 : t.1 = 2
      · rw [if_pos w2, if_pos w2]
        by_cases hy : t.2.1 < rT ρ
        · right
          rw [if_pos hy, if_pos hy]
          exact ⟨f, _, by rw [aTurn_wlg], rfl, fun _ => rfl⟩
        · left
          rw [if_neg hy, if_neg hy]
          exact ⟨rfl, rfl⟩
      · rw [if_neg w2, if_neg w2]
        by_cases w3 : t.1 = 3
        · rw [if_pos w3, if_pos w3]
          by_cases hy : t.2.1 < rT ρ ∧ lv S t.2.1 = 1
          · right
            rw [if_pos (show t.2.1 < rT ρ ∧ lv (wlg S f, n, d, g).1 t.2.1 = 1 from hy), if_pos (show t.2.1 < rT ρ ∧ lv (S, n, d, g).1 t.2.1 = 1 from hy)]
            exact ⟨f, _, by rw [aTick_wlg], rfl, fun _ => rfl⟩
          · left
            exact ⟨if_neg hy, if_neg hy⟩
        · rw [if_neg w3, if_neg w3]
          by_cases w4 : t.1 = 4
          · rw [if_pos w4, if_pos w4]
            by_cases hy : t.2.1 < rT ρ ∧ lv S t.2.1 = 1
            · right
              rw [if_pos (show t.2.1 < rT ρ ∧ lv (wlg S f, n, d, g).1 t.2.1 = 1 from hy), if_pos (show t.2.1 < rT ρ ∧ lv (S, n, d, g).1 t.2.1 = 1 from hy)]
              exact ⟨f, _, by rw [aHomes_wlg], rfl, fun _ => rfl⟩
            · left
              exact ⟨if_neg hy, if_neg hy⟩
          · rw [if_neg w4, if_neg w4]
            by_cases w5 : t.1 = 5
            · rw [if_pos w5, if_pos w5]
              exact Or.inr ⟨f, _, rfl, rfl, fun _ => rfl⟩
            · rw [if_neg w5, if_neg w5]
              right
              refine ⟨f, _, ?_, rfl, fun _ => rfl⟩
              show some ((eS ρ d n (wlg S f) g).1, n, d - 1, (eS ρ d n (wlg S f) g).2) = _
              rw [eS_wlg]
theorem rnS_lg (sg : Nat → StT) : ∀ (k i : Nat) (S : HSt) (f : List (Nat × Nat × Nat)) (n d : Nat) (g : Nat → GoT), ∃ f', rnS ρ true sg k i (wlg S f, n, d, g) = ((rnS ρ false sg k i (S, n, d, g)).1, wlg (rnS ρ false sg k i (S, n, d, g)).2.1 f', (rnS ρ false sg k i (S, n, d, g)).2.2)
  | 0, i, S, f, n, d, g => ⟨f, rfl⟩
  | k + 1, i, S, f, n, d, g => by
    unfold rnS
    rcases stp_lg (ρ := ρ) (n := n) (d := d) (S := S) (f := f) (g := g) true (sg i) with ⟨h1, h2⟩ | ⟨f1, x, h1, h2, -⟩
    · rw [h1, h2]
      exact ⟨f, rfl⟩
    · rw [h1, h2]
      obtain ⟨S1, n1, d1, g1⟩ := x
      exact rnS_lg sg k (i + 1) S1 f1 n1 d1 g1
theorem cls_wlg : ∀ (e : Nat) (S : HSt) (g : Nat → GoT), cls ρ n e (wlg S f) g = wlg (cls ρ n e S g) f
  | 0, S, g => rfl
  | e + 1, S, g => by
    unfold cls
    rw [eS_wlg, cls_wlg e]
theorem runA_lg (sg : Nat → StT) (st : Nat) (S : HSt) (f : List (Nat × Nat × Nat)) : ∃ f', runA ρ true sg st (wlg S f) = ((runA ρ false sg st S).1, wlg (runA ρ false sg st S).2 f') := by
  obtain ⟨f1, h⟩ := rnS_lg (ρ := ρ) sg st 0 S f 0 0 g00
  refine ⟨f1, ?_⟩
  unfold runA
  rw [h, cls_wlg]
theorem stp_F {t : StT} {x : RSt} (h : stp ρ false t (S, n, d, g) = some x) : lg x.1 = lg S := by
  rcases stp_lg (ρ := ρ) (n := n) (d := d) (S := S) (f := lg S) (g := g) false t with ⟨h1, h2⟩ | ⟨f1, y, h1, h2, h3⟩
  · rw [h2] at h; cases h
  · obtain rfl : y = x := Option.some.inj (h2.symm.trans h)
    rw [wlg_id, h2, h3 rfl] at h1
    have e := congrArg Prod.fst (Option.some.inj h1)
    exact (congrArg lg e).trans rfl
theorem rnS_F (sg : Nat → StT) : ∀ (k i : Nat) (S : HSt) (n d : Nat) (g : Nat → GoT), lg (rnS ρ false sg k i (S, n, d, g)).2.1 = lg S
  | 0, i, S, n, d, g => rfl
  | k + 1, i, S, n, d, g => by
    unfold rnS
    cases h : stp ρ false (sg i) (S, n, d, g) with
    | none => rfl
    | some x =>
      obtain ⟨S1, n1, d1, g1⟩ := x
      exact (rnS_F sg k (i + 1) S1 n1 d1 g1).trans (stp_F h)
theorem cls_F (e : Nat) (S : HSt) (g : Nat → GoT) : lg (cls ρ n e S g) = lg S := by
  have h := cls_wlg (ρ := ρ) (n := n) (f := lg S) e S g
  rw [wlg_id] at h
  exact (congrArg lg h).trans rfl
theorem runA_F (sg : Nat → StT) (st : Nat) (S : HSt) : lg (runA ρ false sg st S).2 = lg S := (cls_F _ _ _).trans (rnS_F sg st 0 S 0 0 g00)
end LG2
