/-! SUMS AND COUNTS -/
def sm (f : Nat → Nat) (n : Nat) : Nat := fr (fun i a => a + f i) n 0
theorem sm_s (f : Nat → Nat) (n : Nat) : sm f (n + 1) = sm f n + f n := rfl
theorem sm_congr {f g : Nat → Nat} : ∀ {n : Nat}, (∀ i, i < n → f i = g i) → sm f n = sm g n
  | 0, _ => rfl
  | n + 1, h => by rw [sm_s, sm_s, sm_congr (fun i hi => h i (by omega)), h n (by omega)]
theorem sm_add (f g : Nat → Nat) : ∀ n, sm (fun i => f i + g i) n = sm f n + sm g n
  | 0 => rfl
  | n + 1 => by rw [sm_s, sm_s, sm_s, sm_add f g n]; omega
theorem sm_0 : ∀ n, sm (fun _ => 0) n = 0
  | 0 => rfl
  | n + 1 => by rw [sm_s, sm_0 n]
theorem sm_1 : ∀ n, sm (fun _ => 1) n = n
  | 0 => rfl
  | n + 1 => by rw [sm_s, sm_1 n]
theorem sm_le {f : Nat → Nat} {c : Nat} : ∀ {n : Nat}, (∀ i, i < n → f i ≤ c) → sm f n ≤ c * n
  | 0, _ => Nat.le_refl _
  | n + 1, h => by
    have h1 := sm_le (f := f) (c := c) (n := n) (fun i hi => h i (by omega))
    have h2 := h n (by omega)
    rw [sm_s, Nat.mul_succ]
    omega
theorem sm_one (x : Nat) : ∀ n, sm (fun b => if x = b then 1 else 0) n = if x < n then 1 else 0
  | 0 => rfl
  | n + 1 => by
    rw [sm_s, sm_one x n]
    by_cases h : x < n
    · rw [if_pos h, if_neg (show ¬ x = n by omega), if_pos (show x < n + 1 by omega)]
    · rw [if_neg h]
      by_cases h2 : x = n
      · rw [if_pos h2, if_pos (by omega)]
      · rw [if_neg h2, if_neg (by omega)]
theorem cnt_sum {n : Nat} : ∀ {xs : List Nat}, (∀ x ∈ xs, x < n) → sm (fun b => xs.count b) n = xs.length
  | [], _ => by
    rw [sm_congr (g := fun _ => 0) (fun i _ => List.count_nil), sm_0]
    rfl
  | x :: xs, h => by
    have e : sm (fun b => (x :: xs).count b) n = sm (fun b => xs.count b + if x = b then 1 else 0) n := sm_congr (fun i _ => by
      rw [List.count_cons]
      by_cases hx : x = i
      · rw [if_pos hx, if_pos (by simpa using hx)]
      · rw [if_neg hx, if_neg (by simpa using hx)])
    rw [e, sm_add, cnt_sum (fun y hy => h y (List.mem_cons_of_mem _ hy)), sm_one, if_pos (h x List.mem_cons_self), List.length_cons]
/-- how many blocks of a page are held -/
def hdn (ρ : Rul) (S : HSt) (p : Nat) : Nat := sm (hd S p) (cut ρ S p)
def bxn (S : HSt) (p t : Nat) : Nat := (bl S (48 + 16 * t + p)).length
section SU
variable {ρ : Rul} {β : Nat} {S S' : HSt} {p t b l q c w : Nat}
theorem held_cnt (hR : RuOK ρ) (V : Inv ρ β S) (hp : p < 16) : usd ρ S p = hdn ρ S p + sm (bxn S p) (rT ρ) := by
  have hRb := ru_b hR
  have h1 : sm (fun b => ct S p b + hd S p b) (cut ρ S p) = cut ρ S p := by
    rw [sm_congr (g := fun _ => 1) (fun b hb => (V.2.1 p hp b).1 hb), sm_1]
  have hin : ∀ l, (l = 3 * p ∨ l = 3 * p + 1 ∨ l = 3 * p + 2 ∨ l = 48 + 16 * 0 + p ∨ l = 48 + 16 * 1 + p ∨ l = 48 + 16 * 2 + p ∨ l = 48 + 16 * 3 + p) → sm (fun b => (bl S l).count b) (cut ρ S p) = (bl S l).length := fun l hl => cnt_sum (fun x hx => (in_cut V.2.1 hp hl hx).1)
  have h2 : sm (ct S p) (cut ρ S p) = lst S p + (bxn S p 0 + bxn S p 1 + bxn S p 2 + bxn S p 3) := by
    unfold ct
    rw [sm_add, sm_add, sm_add, sm_add, sm_add, sm_add, hin _ (Or.inl rfl), hin _ (Or.inr (Or.inl rfl)), hin _ (Or.inr (Or.inr (Or.inl rfl))), hin _ (Or.inr (Or.inr (Or.inr (Or.inl rfl)))), hin _ (Or.inr (Or.inr (Or.inr (Or.inr (Or.inl rfl))))), hin _ (Or.inr (Or.inr (Or.inr (Or.inr (Or.inr (Or.inl rfl)))))), hin _ (Or.inr (Or.inr (Or.inr (Or.inr (Or.inr (Or.inr rfl))))))]
    unfold lst bxn
    omega
  have h3 : sm (bxn S p) (rT ρ) = bxn S p 0 + bxn S p 1 + bxn S p 2 + bxn S p 3 := by
    have z : ∀ t, t < 4 → rT ρ ≤ t → bxn S p t = 0 := fun t ht h => by
      unfold bxn
      rw [(V.2.2.2.1 t p ht hp).2 h]
      rfl
    have z1 := z 1 (by omega)
    have z2 := z 2 (by omega)
    have z3 := z 3 (by omega)
    rcases (show rT ρ = 1 ∨ rT ρ = 2 ∨ rT ρ = 3 ∨ rT ρ = 4 by omega) with e | e | e | e
    · rw [z1 (by omega), z2 (by omega), z3 (by omega), e]
      show 0 + bxn S p 0 = _
      omega
    · rw [z2 (by omega), z3 (by omega), e]
      show 0 + bxn S p 0 + bxn S p 1 = _
      omega
    · rw [z3 (by omega), e]
      show 0 + bxn S p 0 + bxn S p 1 + bxn S p 2 = _
      omega
    · rw [e]
      show 0 + bxn S p 0 + bxn S p 1 + bxn S p 2 + bxn S p 3 = _
      omega
  rw [sm_add, h2] at h1
  unfold usd hdn
  rw [h3]
  omega
theorem hdn_le (hR : RuOK ρ) (V : Inv ρ β S) (hp : p < 16) : hdn ρ S p ≤ 40 := by
  have h1 := held_cnt hR V hp
  have h2 := usd_le hR V hp
  omega
/-! boxes stay shorter than a batch -/
def BxS (S S' : HSt) : Prop := ∀ t p, t < 4 → p < 16 → bl S' (48 + 16 * t + p) = bl S (48 + 16 * t + p) ∨ bl S' (48 + 16 * t + p) = []
theorem bxs_rfl (e : bl S' = bl S) : BxS S S' := fun t p _ _ => Or.inl (by rw [e])
theorem bxs_tr {S2 : HSt} (h : BxS S S') (g : BxS S' S2) : BxS S S2 := fun t p ht hp => by
  rcases g t p ht hp with e | e
  · rw [e]; exact h t p ht hp
  · exact Or.inr e
theorem bxs_B (hR : RuOK ρ) (h : BxS S S') (B : BoxB ρ S) : BoxB ρ S' := fun t p ht hp => by
  have hRb := ru_b hR
  rcases h t p ht hp with e | e
  · rw [e]; exact B t p ht hp
  · rw [e, List.length_nil]; omega
theorem bxs_empty (hp : p < 16) : BxS S (oEmpty p S) := fun t p' _ _ => by
  left
  show ud (ud (ud (bl S) (3 * p) []) (3 * p + 1) []) (3 * p + 2) [] (48 + 16 * t + p') = _
  rw [ud_n _ _ (by omega), ud_n _ _ (by omega), ud_n _ _ (by omega)]
theorem bxs_move {l k : Nat} (hk : k < 48) : BxS S (oMove l k S) := fun t p' _ _ => by
  show ud (ud (bl S) k (bl S l ++ bl S k)) l [] (48 + 16 * t + p') = _ ∨ _
  by_cases e : 48 + 16 * t + p' = l
  · right
    show ud (ud (bl S) k (bl S l ++ bl S k)) l [] (48 + 16 * t + p') = _
    rw [ud_e e]
  · left
    rw [ud_n _ _ e, ud_n _ _ (by omega)]
theorem bxs_home (hp : p < 16) : BxS S (aHome ρ t p S) := by
  unfold aHome
  by_cases h0 : bl S (48 + 16 * t + p) = []
  · rw [if_pos h0]; exact bxs_rfl rfl
  · rw [if_neg h0]
    have h1 : BxS S (oHome t p S) := bxs_move (by omega)
    by_cases h2 : kd S p = 3 ∧ usd ρ (oHome t p S) p = 0
    · rw [if_pos h2]; exact bxs_tr h1 (bxs_empty hp)
    · rw [if_neg h2]; exact h1
theorem bxs_fr {g : Nat → HSt → HSt} {n : Nat} (hg : ∀ i S, i < n → BxS S (g i S)) : ∀ k, k ≤ n → BxS S (fr g k S)
  | 0, _ => bxs_rfl rfl
  | k + 1, hk => bxs_tr (bxs_fr hg k (by omega)) (hg k _ (by omega))
theorem bxs_homes (hR : RuOK ρ) : BxS S (aHomes ρ t S) := by
  have hb := ru_b hR
  exact bxs_fr (n := rP ρ) (fun i S hi => bxs_home (by omega)) _ (Nat.le_refl _)
theorem bxs_tick (hR : RuOK ρ) : BxS S (aTick ρ t S) := by
  have hb := ru_b hR
  refine bxs_tr (bxs_homes hR) (bxs_tr (bxs_fr (n := rP ρ) (fun i S hi => ?_) _ (Nat.le_refl _)) (bxs_fr (n := rP ρ) (fun i S hi => ?_) _ (Nat.le_refl _)))
  · unfold aQ1
    by_cases h : kd S i = 2 ∧ ow S i = t ∧ 0 < lst S i
    · rw [if_pos h]; exact bxs_rfl rfl
    · rw [if_neg h]; exact bxs_rfl rfl
  · unfold aQ2
    by_cases h : kd S i = 1 ∧ ow S i = t ∧ usd ρ S i = 0 ∧ 1 < (qu S (6 * ow S i + cl S i)).length
    · rw [if_pos h]; exact bxs_empty (by omega)
    · rw [if_neg h]; exact bxs_rfl rfl
theorem bxs_turn (hR : RuOK ρ) : BxS S (aTurn ρ t S) := by
  have hb := ru_b hR
  unfold aTurn
  by_cases h : lv S t = 1
  · rw [if_pos h]
    refine bxs_tr (bxs_homes hR) (bxs_tr (bxs_fr (n := rP ρ) (g := aT1 ρ t) (fun i S hi => ?_) _ (Nat.le_refl _)) (bxs_rfl rfl))
    unfold aT1
    by_cases h : (kd S i = 1 ∨ kd S i = 2) ∧ ow S i = t
    · rw [if_pos h]
      by_cases h2 : usd ρ S i = 0
      · rw [if_pos h2]; exact bxs_empty (by omega)
      · rw [if_neg h2]; exact bxs_rfl (leave_pr i S).2.2.2.2.1
    · rw [if_neg h]; exact bxs_rfl rfl
  · rw [if_neg h]; exact bxs_rfl rfl
theorem bxs_get (hR : RuOK ρ) (hp : p < 16) : BxS S (aGet ρ t c p S) := by
  have h1 : BxS S (aG2 ρ t c p S) := by
    have g1 := (oPop_pr (6 * t + c) (gPre t c S) S).1
    unfold aG2
    by_cases h : kd S p = 0
    · rw [if_pos h]
      intro t' p' ht' hp'
      left
      show ud (bl (oPop (6 * t + c) (gPre t c S) S)) (3 * p) _ (48 + 16 * t' + p') = _
      rw [ud_n _ _ (by omega), g1]
    · rw [if_neg h]
      by_cases h2 : kd S p = 3
      · rw [if_pos h2]; exact bxs_rfl g1
      · rw [if_neg h2]; exact bxs_rfl g1
  have h2 : ∀ S : HSt, BxS S (oColl p S) := fun S => by
    unfold oColl
    by_cases h : bl S (3 * p) ≠ []
    · rw [if_pos h]; exact bxs_rfl rfl
    · rw [if_neg h]
      by_cases h2 : bl S (3 * p + 1) ≠ []
      · rw [if_pos h2]; exact bxs_move (by omega)
      · rw [if_neg h2]; exact bxs_move (by omega)
  have h3 : ∀ S : HSt, BxS S (oGt t (oTake p S)) := fun S t' p' _ _ => by
    left
    show ud (bl S) (3 * p) (bl S (3 * p)).tail (48 + 16 * t' + p') = _
    rw [ud_n _ _ (by omega)]
  have h4 : BxS S (aGot ρ t c p S) := bxs_tr h1 (bxs_tr (h2 _) (h3 _))
  unfold aGet aBeat
  by_cases h : gt (aGot ρ t c p S) t % rH ρ = 0
  · rw [if_pos h]; exact bxs_tr h4 (bxs_tick hR)
  · rw [if_neg h]; exact h4
theorem box_free (hR : RuOK ρ) (ht : t < 4) (hp : p < 16) (B : BoxB ρ S) : BoxB ρ (aFree ρ t p b S) := by
  have hRb := ru_b hR
  unfold aFree
  by_cases h1 : (kd S p = 1 ∨ kd S p = 2) ∧ ow S p = t
  · rw [if_pos h1]
    have hL : BxS S (aLoc ρ p b S) := by
      unfold aLoc
      have h0 : BxS S (oPush (3 * p + 1) b (oHd p b 0 S)) := fun t' p' _ _ => by
        left
        show ud (bl S) (3 * p + 1) _ (48 + 16 * t' + p') = _
        rw [ud_n _ _ (by omega)]
      by_cases h : kd S p = 2
      · rw [if_pos h]; exact bxs_tr h0 (bxs_rfl rfl)
      · rw [if_neg h]; exact h0
    refine bxs_B hR ?_ B
    by_cases h2 : usd ρ (aLoc ρ p b S) p = 0 ∧ 1 < (qu (aLoc ρ p b S) (6 * t + cl S p)).length
    · rw [if_pos h2]; exact bxs_tr hL (bxs_empty hp)
    · rw [if_neg h2]; exact hL
  · rw [if_neg h1]
    have hx : ∀ t' p', t' < 4 → p' < 16 → ¬ (t' = t ∧ p' = p) → bl (aBox t p b S) (48 + 16 * t' + p') = bl S (48 + 16 * t' + p') := fun t' p' ht' hp' hne => by
      show ud (bl S) (48 + 16 * t + p) _ (48 + 16 * t' + p') = _
      rw [ud_n _ _ (by omega)]
    have hy : bl (aBox t p b S) (48 + 16 * t + p) = b :: bl S (48 + 16 * t + p) := ud_s _ _ _
    by_cases h2 : (bl S (48 + 16 * t + p)).length + 1 < rB ρ
    · rw [if_pos h2]
      intro t' p' ht' hp'
      by_cases e : t' = t ∧ p' = p
      · rw [e.1, e.2, hy, List.length_cons]; exact h2
      · rw [hx t' p' ht' hp' e]; exact B t' p' ht' hp'
    · rw [if_neg h2]
      have hne : bl (aBox t p b S) (48 + 16 * t + p) ≠ [] := by rw [hy]; simp
      have hz : bl (aHome ρ t p (aBox t p b S)) (48 + 16 * t + p) = [] := by
        unfold aHome
        rw [if_neg hne]
        have h0 : bl (oHome t p (aBox t p b S)) (48 + 16 * t + p) = [] := ud_s _ _ _
        by_cases h3 : kd (aBox t p b S) p = 3 ∧ usd ρ (oHome t p (aBox t p b S)) p = 0
        · rw [if_pos h3]
          rcases bxs_empty (S := oHome t p (aBox t p b S)) hp t p ht hp with e | e
          · rw [e, h0]
          · exact e
        · rw [if_neg h3]; exact h0
      intro t' p' ht' hp'
      by_cases e : t' = t ∧ p' = p
      · rw [e.1, e.2, hz, List.length_nil]; omega
      · rcases bxs_home (ρ := ρ) (t := t) (S := aBox t p b S) hp t' p' ht' hp' with e2 | e2
        · rw [e2, hx t' p' ht' hp' e]; exact B t' p' ht' hp'
        · rw [e2, List.length_nil]; omega
end SU
