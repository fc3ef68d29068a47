/-! acts do not look at the log, nor at who lives, nor at how many gets there were -/
theorem oLeave_wlg (S : HSt) (f : List (Nat × Nat × Nat)) (p : Nat) : oLeave p (wlg S f) = wlg (oLeave p S) f := by
  unfold oLeave
  by_cases hk : kd S p = 1
  · rw [if_pos hk, if_pos (show kd (wlg S f) p = 1 from hk)]; rfl
  · rw [if_neg hk, if_neg (show ¬ kd (wlg S f) p = 1 from hk)]
theorem oEmpty_wlg (S : HSt) (f : List (Nat × Nat × Nat)) (p : Nat) : oEmpty p (wlg S f) = wlg (oEmpty p S) f := by
  unfold oEmpty
  rw [oLeave_wlg]
  rfl
theorem oAband_wlg (S : HSt) (f : List (Nat × Nat × Nat)) (p : Nat) : oAband p (wlg S f) = wlg (oAband p S) f := by
  unfold oAband
  rw [oLeave_wlg]
  rfl
theorem aHome_wlg (ρ : Rul) (t : Nat) (S : HSt) (f : List (Nat × Nat × Nat)) (p : Nat) : aHome ρ t p (wlg S f) = wlg (aHome ρ t p S) f := by
  unfold aHome
  by_cases h0 : bl S (48 + 16 * t + p) = []
  · rw [if_pos h0, if_pos (show bl (wlg S f) (48 + 16 * t + p) = [] from h0)]
  · rw [if_neg h0, if_neg (show ¬ bl (wlg S f) (48 + 16 * t + p) = [] from h0)]
    by_cases h1 : kd S p = 3 ∧ usd ρ (oHome t p S) p = 0
    · rw [if_pos h1, if_pos (show kd (wlg S f) p = 3 ∧ usd ρ (oHome t p (wlg S f)) p = 0 from h1)]
      exact oEmpty_wlg (oHome t p S) f p
    · rw [if_neg h1, if_neg (show ¬ (kd (wlg S f) p = 3 ∧ usd ρ (oHome t p (wlg S f)) p = 0) from h1)]
      rfl
theorem aQ1_wlg (t : Nat) (S : HSt) (f : List (Nat × Nat × Nat)) (p : Nat) : aQ1 t p (wlg S f) = wlg (aQ1 t p S) f := by
  unfold aQ1
  by_cases h1 : kd S p = 2 ∧ ow S p = t ∧ 0 < lst S p
  · rw [if_pos h1, if_pos (show kd (wlg S f) p = 2 ∧ ow (wlg S f) p = t ∧ 0 < lst (wlg S f) p from h1)]
    rfl
  · rw [if_neg h1, if_neg (show ¬ (kd (wlg S f) p = 2 ∧ ow (wlg S f) p = t ∧ 0 < lst (wlg S f) p) from h1)]
theorem aQ2_wlg (ρ : Rul) (t : Nat) (S : HSt) (f : List (Nat × Nat × Nat)) (p : Nat) : aQ2 ρ t p (wlg S f) = wlg (aQ2 ρ t p S) f := by
  unfold aQ2
  by_cases h1 : kd S p = 1 ∧ ow S p = t ∧ usd ρ S p = 0 ∧ 1 < (qu S (6 * ow S p + cl S p)).length
  · rw [if_pos h1, if_pos (show kd (wlg S f) p = 1 ∧ ow (wlg S f) p = t ∧ usd ρ (wlg S f) p = 0 ∧ 1 < (qu (wlg S f) (6 * ow (wlg S f) p + cl (wlg S f) p)).length from h1)]
    exact oEmpty_wlg S f p
  · rw [if_neg h1, if_neg (show ¬ (kd (wlg S f) p = 1 ∧ ow (wlg S f) p = t ∧ usd ρ (wlg S f) p = 0 ∧ 1 < (qu (wlg S f) (6 * ow (wlg S f) p + cl (wlg S f) p)).length) from h1)]
theorem aT1_wlg (ρ : Rul) (t : Nat) (S : HSt) (f : List (Nat × Nat × Nat)) (p : Nat) : aT1 ρ t p (wlg S f) = wlg (aT1 ρ t p S) f := by
  unfold aT1
  by_cases h1 : (kd S p = 1 ∨ kd S p = 2) ∧ ow S p = t
  · rw [if_pos h1, if_pos (show (kd (wlg S f) p = 1 ∨ kd (wlg S f) p = 2) ∧ ow (wlg S f) p = t from h1)]
    by_cases h2 : usd ρ S p = 0
    · rw [if_pos h2, if_pos (show usd ρ (wlg S f) p = 0 from h2)]
      exact oEmpty_wlg S f p
    · rw [if_neg h2, if_neg (show ¬ usd ρ (wlg S f) p = 0 from h2)]
      exact oAband_wlg S f p
  · rw [if_neg h1, if_neg (show ¬ ((kd (wlg S f) p = 1 ∨ kd (wlg S f) p = 2) ∧ ow (wlg S f) p = t) from h1)]
theorem fr_wlg {g : Nat → HSt → HSt} {f : List (Nat × Nat × Nat)} (hg : ∀ p S, g p (wlg S f) = wlg (g p S) f) : ∀ (n : Nat) (S : HSt), fr g n (wlg S f) = wlg (fr g n S) f
  | 0, _ => rfl
  | n + 1, S => by
    show g n (fr g n (wlg S f)) = wlg (g n (fr g n S)) f
    rw [fr_wlg hg n S, hg]
theorem aHomes_wlg (ρ : Rul) (t : Nat) (S : HSt) (f : List (Nat × Nat × Nat)) : aHomes ρ t (wlg S f) = wlg (aHomes ρ t S) f := fr_wlg (fun p S => aHome_wlg ρ t S f p) _ S
theorem aTick_wlg (ρ : Rul) (t : Nat) (S : HSt) (f : List (Nat × Nat × Nat)) : aTick ρ t (wlg S f) = wlg (aTick ρ t S) f := by
  unfold aTick
  rw [aHomes_wlg, fr_wlg (fun p S => aQ1_wlg t S f p), fr_wlg (fun p S => aQ2_wlg ρ t S f p)]
theorem aTurns_wlg (ρ : Rul) (t : Nat) (S : HSt) (f : List (Nat × Nat × Nat)) : aTurns ρ t (wlg S f) = wlg (aTurns ρ t S) f := by
  unfold aTurns
  rw [aHomes_wlg, fr_wlg (fun p S => aT1_wlg ρ t S f p)]
theorem aTick_lg (ρ : Rul) (t : Nat) (S : HSt) : lg (aTick ρ t S) = lg S := by
  have e := aTick_wlg ρ t S (lg S)
  have e2 : wlg S (lg S) = S := rfl
  rw [e2] at e
  exact (congrArg lg e).trans rfl
theorem aTurns_lg (ρ : Rul) (t : Nat) (S : HSt) : lg (aTurns ρ t S) = lg S := by
  have e := aTurns_wlg ρ t S (lg S)
  have e2 : wlg S (lg S) = S := rfl
  rw [e2] at e
  exact (congrArg lg e).trans rfl

theorem oLeave_wlv (S : HSt) (f : Nat → Nat) (p : Nat) : oLeave p (wlv S f) = wlv (oLeave p S) f := by
  unfold oLeave
  by_cases hk : kd S p = 1
  · rw [if_pos hk, if_pos (show kd (wlv S f) p = 1 from hk)]; rfl
  · rw [if_neg hk, if_neg (show ¬ kd (wlv S f) p = 1 from hk)]
theorem oEmpty_wlv (S : HSt) (f : Nat → Nat) (p : Nat) : oEmpty p (wlv S f) = wlv (oEmpty p S) f := by
  unfold oEmpty
  rw [oLeave_wlv]
  rfl
theorem oAband_wlv (S : HSt) (f : Nat → Nat) (p : Nat) : oAband p (wlv S f) = wlv (oAband p S) f := by
  unfold oAband
  rw [oLeave_wlv]
  rfl
theorem aHome_wlv (ρ : Rul) (t : Nat) (S : HSt) (f : Nat → Nat) (p : Nat) : aHome ρ t p (wlv S f) = wlv (aHome ρ t p S) f := by
  unfold aHome
  by_cases h0 : bl S (48 + 16 * t + p) = []
  · rw [if_pos h0, if_pos (show bl (wlv S f) (48 + 16 * t + p) = [] from h0)]
  · rw [if_neg h0, if_neg (show ¬ bl (wlv S f) (48 + 16 * t + p) = [] from h0)]
    by_cases h1 : kd S p = 3 ∧ usd ρ (oHome t p S) p = 0
    · rw [if_pos h1, if_pos (show kd (wlv S f) p = 3 ∧ usd ρ (oHome t p (wlv S f)) p = 0 from h1)]
      exact oEmpty_wlv (oHome t p S) f p
    · rw [if_neg h1, if_neg (show ¬ (kd (wlv S f) p = 3 ∧ usd ρ (oHome t p (wlv S f)) p = 0) from h1)]
      rfl
theorem aQ1_wlv (t : Nat) (S : HSt) (f : Nat → Nat) (p : Nat) : aQ1 t p (wlv S f) = wlv (aQ1 t p S) f := by
  unfold aQ1
  by_cases h1 : kd S p = 2 ∧ ow S p = t ∧ 0 < lst S p
  · rw [if_pos h1, if_pos (show kd (wlv S f) p = 2 ∧ ow (wlv S f) p = t ∧ 0 < lst (wlv S f) p from h1)]
    rfl
  · rw [if_neg h1, if_neg (show ¬ (kd (wlv S f) p = 2 ∧ ow (wlv S f) p = t ∧ 0 < lst (wlv S f) p) from h1)]
theorem aQ2_wlv (ρ : Rul) (t : Nat) (S : HSt) (f : Nat → Nat) (p : Nat) : aQ2 ρ t p (wlv S f) = wlv (aQ2 ρ t p S) f := by
  unfold aQ2
  by_cases h1 : kd S p = 1 ∧ ow S p = t ∧ usd ρ S p = 0 ∧ 1 < (qu S (6 * ow S p + cl S p)).length
  · rw [if_pos h1, if_pos (show kd (wlv S f) p = 1 ∧ ow (wlv S f) p = t ∧ usd ρ (wlv S f) p = 0 ∧ 1 < (qu (wlv S f) (6 * ow (wlv S f) p + cl (wlv S f) p)).length from h1)]
    exact oEmpty_wlv S f p
  · rw [if_neg h1, if_neg (show ¬ (kd (wlv S f) p = 1 ∧ ow (wlv S f) p = t ∧ usd ρ (wlv S f) p = 0 ∧ 1 < (qu (wlv S f) (6 * ow (wlv S f) p + cl (wlv S f) p)).length) from h1)]
theorem aT1_wlv (ρ : Rul) (t : Nat) (S : HSt) (f : Nat → Nat) (p : Nat) : aT1 ρ t p (wlv S f) = wlv (aT1 ρ t p S) f := by
  unfold aT1
  by_cases h1 : (kd S p = 1 ∨ kd S p = 2) ∧ ow S p = t
  · rw [if_pos h1, if_pos (show (kd (wlv S f) p = 1 ∨ kd (wlv S f) p = 2) ∧ ow (wlv S f) p = t from h1)]
    by_cases h2 : usd ρ S p = 0
    · rw [if_pos h2, if_pos (show usd ρ (wlv S f) p = 0 from h2)]
      exact oEmpty_wlv S f p
    · rw [if_neg h2, if_neg (show ¬ usd ρ (wlv S f) p = 0 from h2)]
      exact oAband_wlv S f p
  · rw [if_neg h1, if_neg (show ¬ ((kd (wlv S f) p = 1 ∨ kd (wlv S f) p = 2) ∧ ow (wlv S f) p = t) from h1)]
theorem fr_wlv {g : Nat → HSt → HSt} {f : Nat → Nat} (hg : ∀ p S, g p (wlv S f) = wlv (g p S) f) : ∀ (n : Nat) (S : HSt), fr g n (wlv S f) = wlv (fr g n S) f
  | 0, _ => rfl
  | n + 1, S => by
    show g n (fr g n (wlv S f)) = wlv (g n (fr g n S)) f
    rw [fr_wlv hg n S, hg]
theorem aHomes_wlv (ρ : Rul) (t : Nat) (S : HSt) (f : Nat → Nat) : aHomes ρ t (wlv S f) = wlv (aHomes ρ t S) f := fr_wlv (fun p S => aHome_wlv ρ t S f p) _ S
theorem aTick_wlv (ρ : Rul) (t : Nat) (S : HSt) (f : Nat → Nat) : aTick ρ t (wlv S f) = wlv (aTick ρ t S) f := by
  unfold aTick
  rw [aHomes_wlv, fr_wlv (fun p S => aQ1_wlv t S f p), fr_wlv (fun p S => aQ2_wlv ρ t S f p)]
theorem aTurns_wlv (ρ : Rul) (t : Nat) (S : HSt) (f : Nat → Nat) : aTurns ρ t (wlv S f) = wlv (aTurns ρ t S) f := by
  unfold aTurns
  rw [aHomes_wlv, fr_wlv (fun p S => aT1_wlv ρ t S f p)]
theorem aTick_lv (ρ : Rul) (t : Nat) (S : HSt) : lv (aTick ρ t S) = lv S := by
  have e := aTick_wlv ρ t S (lv S)
  have e2 : wlv S (lv S) = S := rfl
  rw [e2] at e
  exact (congrArg lv e).trans rfl
theorem aTurns_lv (ρ : Rul) (t : Nat) (S : HSt) : lv (aTurns ρ t S) = lv S := by
  have e := aTurns_wlv ρ t S (lv S)
  have e2 : wlv S (lv S) = S := rfl
  rw [e2] at e
  exact (congrArg lv e).trans rfl

theorem oLeave_wgt (S : HSt) (f : Nat → Nat) (p : Nat) : oLeave p (wgt S f) = wgt (oLeave p S) f := by
  unfold oLeave
  by_cases hk : kd S p = 1
  · rw [if_pos hk, if_pos (show kd (wgt S f) p = 1 from hk)]; rfl
  · rw [if_neg hk, if_neg (show ¬ kd (wgt S f) p = 1 from hk)]
theorem oEmpty_wgt (S : HSt) (f : Nat → Nat) (p : Nat) : oEmpty p (wgt S f) = wgt (oEmpty p S) f := by
  unfold oEmpty
  rw [oLeave_wgt]
  rfl
theorem oAband_wgt (S : HSt) (f : Nat → Nat) (p : Nat) : oAband p (wgt S f) = wgt (oAband p S) f := by
  unfold oAband
  rw [oLeave_wgt]
  rfl
theorem aHome_wgt (ρ : Rul) (t : Nat) (S : HSt) (f : Nat → Nat) (p : Nat) : aHome ρ t p (wgt S f) = wgt (aHome ρ t p S) f := by
  unfold aHome
  by_cases h0 : bl S (48 + 16 * t + p) = []
  · rw [if_pos h0, if_pos (show bl (wgt S f) (48 + 16 * t + p) = [] from h0)]
  · rw [if_neg h0, if_neg (show ¬ bl (wgt S f) (48 + 16 * t + p) = [] from h0)]
    by_cases h1 : kd S p = 3 ∧ usd ρ (oHome t p S) p = 0
    · rw [if_pos h1, if_pos (show kd (wgt S f) p = 3 ∧ usd ρ (oHome t p (wgt S f)) p = 0 from h1)]
      exact oEmpty_wgt (oHome t p S) f p
    · rw [if_neg h1, if_neg (show ¬ (kd (wgt S f) p = 3 ∧ usd ρ (oHome t p (wgt S f)) p = 0) from h1)]
      rfl
theorem aQ1_wgt (t : Nat) (S : HSt) (f : Nat → Nat) (p : Nat) : aQ1 t p (wgt S f) = wgt (aQ1 t p S) f := by
  unfold aQ1
  by_cases h1 : kd S p = 2 ∧ ow S p = t ∧ 0 < lst S p
  · rw [if_pos h1, if_pos (show kd (wgt S f) p = 2 ∧ ow (wgt S f) p = t ∧ 0 < lst (wgt S f) p from h1)]
    rfl
  · rw [if_neg h1, if_neg (show ¬ (kd (wgt S f) p = 2 ∧ ow (wgt S f) p = t ∧ 0 < lst (wgt S f) p) from h1)]
theorem aQ2_wgt (ρ : Rul) (t : Nat) (S : HSt) (f : Nat → Nat) (p : Nat) : aQ2 ρ t p (wgt S f) = wgt (aQ2 ρ t p S) f := by
  unfold aQ2
  by_cases h1 : kd S p = 1 ∧ ow S p = t ∧ usd ρ S p = 0 ∧ 1 < (qu S (6 * ow S p + cl S p)).length
  · rw [if_pos h1, if_pos (show kd (wgt S f) p = 1 ∧ ow (wgt S f) p = t ∧ usd ρ (wgt S f) p = 0 ∧ 1 < (qu (wgt S f) (6 * ow (wgt S f) p + cl (wgt S f) p)).length from h1)]
    exact oEmpty_wgt S f p
  · rw [if_neg h1, if_neg (show ¬ (kd (wgt S f) p = 1 ∧ ow (wgt S f) p = t ∧ usd ρ (wgt S f) p = 0 ∧ 1 < (qu (wgt S f) (6 * ow (wgt S f) p + cl (wgt S f) p)).length) from h1)]
theorem aT1_wgt (ρ : Rul) (t : Nat) (S : HSt) (f : Nat → Nat) (p : Nat) : aT1 ρ t p (wgt S f) = wgt (aT1 ρ t p S) f := by
  unfold aT1
  by_cases h1 : (kd S p = 1 ∨ kd S p = 2) ∧ ow S p = t
  · rw [if_pos h1, if_pos (show (kd (wgt S f) p = 1 ∨ kd (wgt S f) p = 2) ∧ ow (wgt S f) p = t from h1)]
    by_cases h2 : usd ρ S p = 0
    · rw [if_pos h2, if_pos (show usd ρ (wgt S f) p = 0 from h2)]
      exact oEmpty_wgt S f p
    · rw [if_neg h2, if_neg (show ¬ usd ρ (wgt S f) p = 0 from h2)]
      exact oAband_wgt S f p
  · rw [if_neg h1, if_neg (show ¬ ((kd (wgt S f) p = 1 ∨ kd (wgt S f) p = 2) ∧ ow (wgt S f) p = t) from h1)]
theorem fr_wgt {g : Nat → HSt → HSt} {f : Nat → Nat} (hg : ∀ p S, g p (wgt S f) = wgt (g p S) f) : ∀ (n : Nat) (S : HSt), fr g n (wgt S f) = wgt (fr g n S) f
  | 0, _ => rfl
  | n + 1, S => by
    show g n (fr g n (wgt S f)) = wgt (g n (fr g n S)) f
    rw [fr_wgt hg n S, hg]
theorem aHomes_wgt (ρ : Rul) (t : Nat) (S : HSt) (f : Nat → Nat) : aHomes ρ t (wgt S f) = wgt (aHomes ρ t S) f := fr_wgt (fun p S => aHome_wgt ρ t S f p) _ S
theorem aTick_wgt (ρ : Rul) (t : Nat) (S : HSt) (f : Nat → Nat) : aTick ρ t (wgt S f) = wgt (aTick ρ t S) f := by
  unfold aTick
  rw [aHomes_wgt, fr_wgt (fun p S => aQ1_wgt t S f p), fr_wgt (fun p S => aQ2_wgt ρ t S f p)]
theorem aTurns_wgt (ρ : Rul) (t : Nat) (S : HSt) (f : Nat → Nat) : aTurns ρ t (wgt S f) = wgt (aTurns ρ t S) f := by
  unfold aTurns
  rw [aHomes_wgt, fr_wgt (fun p S => aT1_wgt ρ t S f p)]
theorem aTick_gt (ρ : Rul) (t : Nat) (S : HSt) : gt (aTick ρ t S) = gt S := by
  have e := aTick_wgt ρ t S (gt S)
  have e2 : wgt S (gt S) = S := rfl
  rw [e2] at e
  exact (congrArg gt e).trans rfl
theorem aTurns_gt (ρ : Rul) (t : Nat) (S : HSt) : gt (aTurns ρ t S) = gt S := by
  have e := aTurns_wgt ρ t S (gt S)
  have e2 : wgt S (gt S) = S := rfl
  rw [e2] at e
  exact (congrArg gt e).trans rfl
theorem aTick_note (ρ : Rul) (t : Nat) (e : Nat × Nat × Nat) (S : HSt) : aTick ρ t (oNote e S) = oNote e (aTick ρ t S) := by
  unfold oNote
  rw [aTick_wlg, aTick_lg]
theorem gPre_0 {t c : Nat} {S : HSt} : ∀ x ∈ gPre t c S, lst S x = 0 := by
  unfold gPre
  generalize qu S (6 * t + c) = xs
  induction xs with
  | nil => intro x hx; cases hx
  | cons y ys ih =>
    intro x hx
    by_cases h1 : hasL S y = true
    · rw [List.takeWhile_cons_of_neg (by simpa using h1)] at hx
      cases hx
    · rw [List.takeWhile_cons_of_pos (by simpa using h1)] at hx
      rcases List.mem_cons.mp hx with rfl | hx
      · unfold hasL at h1
        rw [decide_eq_true_eq] at h1
        omega
      · exact ih x hx
section CT
variable {M : Mem} {h : Nat} {ρ : Rul} {β : Nat} {S : HSt} {p t b l q c : Nat}
theorem fill_adopt (ρ : Rul) (t c p : Nat) (S : HSt) : oAdopt t p (oF1 ρ c p S) = oFill ρ t c p S := by
  unfold oFill oAdopt oEnq
  show wqu (wkd _ (ud (ud (kd S) p 3) p 1)) _ = _
  rw [ud_ud]
  rfl
theorem cBring (C : CC M h ρ β S) (V : Inv ρ β S) (ht : t < rT ρ) (hc : c < rK ρ) (e : pgF ρ t c S = some p) : ∃ M', fH_bringToFront h (nI t) (nI c) (nI p) M = some M' ∧ Fr M M' (h + 1) (h + 13) ∧ CC M' h ρ β (aG2 ρ t c p S) ∧ Inv ρ β (aG2 ρ t c p S) ∧ 0 < lst (aG2 ρ t c p S) p ∧ kd (aG2 ρ t c p S) p = 1 := by
  have H := C.1
  have hb := hs_b H
  have hR := ru_b C.2.2.1
  have hq : 6 * t + c < 24 := by omega
  have hql := qlen V hq
  obtain ⟨hp, hcs⟩ := pgF_cases C.2.2.1 V ht hc e
  have hp16 : p < 16 := by omega
  obtain ⟨g1, g2, g3, g4, g5, g6, g7, g8⟩ := oPop_pr (6 * t + c) (gPre t c S) S
  unfold aG2
  rcases hcs with ⟨hk, hg⟩ | ⟨hk, hcl, hl, hg⟩ | ⟨hk, how, hcl, hl, ys, hg⟩
  · rw [if_pos hk]
    have hnp : p ∉ gPre t c S := by rw [hg]; exact no_q V (by omega) _ hq
    obtain ⟨M1, e1, F1, C1, V1, q1⟩ := bt_loop (nI t) (nI c) hq hp16 (gPre t c S) 1000000 0 [] M S C V (by rw [hg, List.append_nil]) (fun y r w => by cases w) hnp gPre_0 (by rw [hg]; omega) (by rw [hg]; omega)
    have k1 : kd (oPop (6 * t + c) (gPre t c S) S) p = 0 := (g8 p hnp).trans hk
    obtain ⟨M2, e2, F2, C2⟩ := cFill C1 V1 hp16 hc k1
    have cl2 : cl (oF1 ρ c p (oPop (6 * t + c) (gPre t c S) S)) p = c := ud_s _ _ _
    obtain ⟨M3, e3, F3, C3⟩ := cAdopt (p := p) C2 (fun k hkk => no_q V1 (by omega) k hkk) ht (by rw [cl2]; exact hc) hp16 (ud_s _ _ _)
    rw [cl2] at e3
    rw [fill_adopt] at C3
    have hn0 : 0 < rU ρ / rZ ρ c := by
      have hz := C.2.2.1.2.1 c hc
      exact Nat.div_pos hz.2 hz.1
    refine ⟨M3, ?_, Fr_tr F1 (Fr_tr F2 F3), C3, inv_fill ht hc hp (by omega) k1 V1, ?_, ud_s _ _ _⟩
    · have hkk := (cv_k C1 hp16).trans (kI_0 k1)
      have H1 := C1.1
      simp (disch := omega) only [fH_bringToFront, BH_bringToFront_62, fH_queueOf, gd1, bs1, ↓reduceIte, d_nz, d_nn, or_true, true_or, or_false, false_or, decide_true, Sum.elim_inl, Sum.elim_inr, ↓l_m1, l_0, l_1, l_2, l_3, l_4, l_5, l_6, l_7, l_8, l_9, l_10, l_16, l_17, l_18, l_20, l_23, l_24, l_30, l_31, l_32, l_39, l_40, l_41, l_48, l_57, l_58, l_59, l_60, l_63, l_90, l_97, l_98, l_99, l_100, l_102, l_103, l_104, l_107, l_109, l_112, l_115, l_116, l_117, l_120, l_122, l_126, l_166, l_180, l_240, l_255, l_640, l_999, l_2656, l_3064, l_3704, l_3708, l_3712, l_3713, l_3893, l_155720, l_1000000, n_ltT, n_ltF, n_leT, n_leF, n_eqT, n_eqF, n_eqm, n_eqm', n_mltn, n_mlen, n_nltm, n_nlem, n_mltm, n_mlem, n_add, n_mul, n_sub, n_subm, n_cl, n_ofNat, n_div, n_mod, obM_si, rdI_si, wrI_si, lnI_si, grM_si', tgM_si', obM_sa, rdI_sa, wrI_sa, lnI_sa, grM_sa', tgM_sa', hs_ob H, hs_g0 H, hs_g1 H, hs_g2 H, hs_g3 H, hs_g4 H, hs_g5 H, hs_g6 H, hs_g7 H, hs_g8 H, hs_t1 H, hs_r1 H, hs_w1 H, hs_l1 H, hs_t2 H, hs_r2 H, hs_w2 H, hs_l2 H, hs_t3 H, hs_r3 H, hs_w3 H, hs_l3 H, hs_t14 H, hs_r14 H, hs_w14 H, hs_l14 H, hs_t15 H, hs_r15 H, hs_w15 H, hs_l15 H, hs_ob4 H, hs_g4_0 H, hs_t5 H, hs_r5 H, hs_w5 H, hs_l5 H, hs_g4_1 H, hs_t6 H, hs_r6 H, hs_w6 H, hs_l6 H, hs_g4_2 H, hs_t7 H, hs_r7 H, hs_w7 H, hs_l7 H, hs_g4_3 H, hs_t8 H, hs_r8 H, hs_w8 H, hs_l8 H, hs_ob9 H, hs_g9_0 H, hs_t10 H, hs_r10 H, hs_w10 H, hs_l10 H, hs_g9_1 H, hs_t11 H, hs_r11 H, hs_w11 H, hs_l11 H, hs_g9_2 H, hs_t12 H, hs_r12 H, hs_w12 H, hs_l12 H, hs_g9_3 H, hs_t13 H, hs_r13 H, hs_w13 H, hs_l13 H, hs_ob16 H, hs_g16 H, hs_t17 H, hs_r17 H, hs_w17 H, hs_l17 H, hs_ob5 H, hs_g50 H, hs_g51 H, hs_tu6 H, hs_ru6 H, hs_wu6 H, hs_lu6 H, hs_tu7 H, hs_ru7 H, hs_wu7 H, hs_lu7 H, hs_ob H1, hs_g0 H1, hs_g1 H1, hs_g2 H1, hs_g3 H1, hs_g4 H1, hs_g5 H1, hs_g6 H1, hs_g7 H1, hs_g8 H1, hs_t1 H1, hs_r1 H1, hs_w1 H1, hs_l1 H1, hs_t2 H1, hs_r2 H1, hs_w2 H1, hs_l2 H1, hs_t3 H1, hs_r3 H1, hs_w3 H1, hs_l3 H1, hs_t14 H1, hs_r14 H1, hs_w14 H1, hs_l14 H1, hs_t15 H1, hs_r15 H1, hs_w15 H1, hs_l15 H1, hs_ob4 H1, hs_g4_0 H1, hs_t5 H1, hs_r5 H1, hs_w5 H1, hs_l5 H1, hs_g4_1 H1, hs_t6 H1, hs_r6 H1, hs_w6 H1, hs_l6 H1, hs_g4_2 H1, hs_t7 H1, hs_r7 H1, hs_w7 H1, hs_l7 H1, hs_g4_3 H1, hs_t8 H1, hs_r8 H1, hs_w8 H1, hs_l8 H1, hs_ob9 H1, hs_g9_0 H1, hs_t10 H1, hs_r10 H1, hs_w10 H1, hs_l10 H1, hs_g9_1 H1, hs_t11 H1, hs_r11 H1, hs_w11 H1, hs_l11 H1, hs_g9_2 H1, hs_t12 H1, hs_r12 H1, hs_w12 H1, hs_l12 H1, hs_g9_3 H1, hs_t13 H1, hs_r13 H1, hs_w13 H1, hs_l13 H1, hs_ob16 H1, hs_g16 H1, hs_t17 H1, hs_r17 H1, hs_w17 H1, hs_l17 H1, hs_ob5 H1, hs_g50 H1, hs_g51 H1, hs_tu6 H1, hs_ru6 H1, hs_wu6 H1, hs_lu6 H1, hs_tu7 H1, hs_ru7 H1, hs_wu7 H1, hs_lu7 H1, mul3, mul6, mul16, mul40, mul100, Nat.add_zero, e1, hkk, e2, e3]
    · unfold lst
      show 0 < (ud (bl _) (3 * p) (List.range (rU ρ / rZ ρ c)) (3 * p)).length + _ + _
      rw [ud_s, List.length_range]
      omega
  · rw [if_neg (by omega), if_pos hk]
    have hnp : p ∉ gPre t c S := by rw [hg]; exact no_q V (by omega) _ hq
    obtain ⟨M1, e1, F1, C1, V1, q1⟩ := bt_loop (nI t) (nI c) hq hp16 (gPre t c S) 1000000 0 [] M S C V (by rw [hg, List.append_nil]) (fun y r w => by cases w) hnp gPre_0 (by rw [hg]; omega) (by rw [hg]; omega)
    have k1 : kd (oPop (6 * t + c) (gPre t c S) S) p = 3 := (g8 p hnp).trans hk
    have cl1 : cl (oPop (6 * t + c) (gPre t c S) S) p = c := by rw [g3]; exact hcl
    obtain ⟨M3, e3, F3, C3⟩ := cAdopt (p := p) C1 (fun k hkk => no_q V1 (by omega) k hkk) ht (by rw [cl1]; exact hc) hp16 k1
    rw [cl1] at e3
    refine ⟨M3, ?_, Fr_tr F1 F3, C3, inv_adopt ht hp16 k1 V1, ?_, ud_s _ _ _⟩
    · have hkk := (cv_k C1 hp16).trans (kI_n (by omega))
      rw [cl1] at hkk
      have H1 := C1.1
      simp (disch := omega) only [fH_bringToFront, BH_bringToFront_62, fH_queueOf, gd1, bs1, ↓reduceIte, d_nz, d_nn, or_true, true_or, or_false, false_or, decide_true, Sum.elim_inl, Sum.elim_inr, ↓l_m1, l_0, l_1, l_2, l_3, l_4, l_5, l_6, l_7, l_8, l_9, l_10, l_16, l_17, l_18, l_20, l_23, l_24, l_30, l_31, l_32, l_39, l_40, l_41, l_48, l_57, l_58, l_59, l_60, l_63, l_90, l_97, l_98, l_99, l_100, l_102, l_103, l_104, l_107, l_109, l_112, l_115, l_116, l_117, l_120, l_122, l_126, l_166, l_180, l_240, l_255, l_640, l_999, l_2656, l_3064, l_3704, l_3708, l_3712, l_3713, l_3893, l_155720, l_1000000, n_ltT, n_ltF, n_leT, n_leF, n_eqT, n_eqF, n_eqm, n_eqm', n_mltn, n_mlen, n_nltm, n_nlem, n_mltm, n_mlem, n_add, n_mul, n_sub, n_subm, n_cl, n_ofNat, n_div, n_mod, obM_si, rdI_si, wrI_si, lnI_si, grM_si', tgM_si', obM_sa, rdI_sa, wrI_sa, lnI_sa, grM_sa', tgM_sa', hs_ob H, hs_g0 H, hs_g1 H, hs_g2 H, hs_g3 H, hs_g4 H, hs_g5 H, hs_g6 H, hs_g7 H, hs_g8 H, hs_t1 H, hs_r1 H, hs_w1 H, hs_l1 H, hs_t2 H, hs_r2 H, hs_w2 H, hs_l2 H, hs_t3 H, hs_r3 H, hs_w3 H, hs_l3 H, hs_t14 H, hs_r14 H, hs_w14 H, hs_l14 H, hs_t15 H, hs_r15 H, hs_w15 H, hs_l15 H, hs_ob4 H, hs_g4_0 H, hs_t5 H, hs_r5 H, hs_w5 H, hs_l5 H, hs_g4_1 H, hs_t6 H, hs_r6 H, hs_w6 H, hs_l6 H, hs_g4_2 H, hs_t7 H, hs_r7 H, hs_w7 H, hs_l7 H, hs_g4_3 H, hs_t8 H, hs_r8 H, hs_w8 H, hs_l8 H, hs_ob9 H, hs_g9_0 H, hs_t10 H, hs_r10 H, hs_w10 H, hs_l10 H, hs_g9_1 H, hs_t11 H, hs_r11 H, hs_w11 H, hs_l11 H, hs_g9_2 H, hs_t12 H, hs_r12 H, hs_w12 H, hs_l12 H, hs_g9_3 H, hs_t13 H, hs_r13 H, hs_w13 H, hs_l13 H, hs_ob16 H, hs_g16 H, hs_t17 H, hs_r17 H, hs_w17 H, hs_l17 H, hs_ob5 H, hs_g50 H, hs_g51 H, hs_tu6 H, hs_ru6 H, hs_wu6 H, hs_lu6 H, hs_tu7 H, hs_ru7 H, hs_wu7 H, hs_lu7 H, hs_ob H1, hs_g0 H1, hs_g1 H1, hs_g2 H1, hs_g3 H1, hs_g4 H1, hs_g5 H1, hs_g6 H1, hs_g7 H1, hs_g8 H1, hs_t1 H1, hs_r1 H1, hs_w1 H1, hs_l1 H1, hs_t2 H1, hs_r2 H1, hs_w2 H1, hs_l2 H1, hs_t3 H1, hs_r3 H1, hs_w3 H1, hs_l3 H1, hs_t14 H1, hs_r14 H1, hs_w14 H1, hs_l14 H1, hs_t15 H1, hs_r15 H1, hs_w15 H1, hs_l15 H1, hs_ob4 H1, hs_g4_0 H1, hs_t5 H1, hs_r5 H1, hs_w5 H1, hs_l5 H1, hs_g4_1 H1, hs_t6 H1, hs_r6 H1, hs_w6 H1, hs_l6 H1, hs_g4_2 H1, hs_t7 H1, hs_r7 H1, hs_w7 H1, hs_l7 H1, hs_g4_3 H1, hs_t8 H1, hs_r8 H1, hs_w8 H1, hs_l8 H1, hs_ob9 H1, hs_g9_0 H1, hs_t10 H1, hs_r10 H1, hs_w10 H1, hs_l10 H1, hs_g9_1 H1, hs_t11 H1, hs_r11 H1, hs_w11 H1, hs_l11 H1, hs_g9_2 H1, hs_t12 H1, hs_r12 H1, hs_w12 H1, hs_l12 H1, hs_g9_3 H1, hs_t13 H1, hs_r13 H1, hs_w13 H1, hs_l13 H1, hs_ob16 H1, hs_g16 H1, hs_t17 H1, hs_r17 H1, hs_w17 H1, hs_l17 H1, hs_ob5 H1, hs_g50 H1, hs_g51 H1, hs_tu6 H1, hs_ru6 H1, hs_wu6 H1, hs_lu6 H1, hs_tu7 H1, hs_ru7 H1, hs_wu7 H1, hs_lu7 H1, mul3, mul6, mul16, mul40, mul100, Nat.add_zero, e1, hkk, e3]
    · show 0 < (bl (oPop (6 * t + c) (gPre t c S) S) (3 * p)).length + (bl (oPop (6 * t + c) (gPre t c S) S) (3 * p + 1)).length + (bl (oPop (6 * t + c) (gPre t c S) S) (3 * p + 2)).length
      rw [g1]
      exact hl
  · rw [if_neg (by omega), if_neg (by omega)]
    have hnd := (V.2.2.1 _ hq).1
    rw [hg] at hnd
    have hnp : p ∉ gPre t c S := fun w => (List.nodup_append.mp hnd).2.2 p w p List.mem_cons_self rfl
    have hlen : (gPre t c S).length ≤ 16 := by
      rw [hg, List.length_append] at hql
      omega
    obtain ⟨M1, e1, F1, C1, V1, q1⟩ := bt_loop (nI t) (nI c) hq hp16 (gPre t c S) 1000000 0 (p :: ys) M S C V hg (fun y r w => by cases w; rfl) hnp gPre_0 (by omega) (by omega)
    have k1 : kd (oPop (6 * t + c) (gPre t c S) S) p = 1 := (g8 p hnp).trans hk
    refine ⟨M1, ?_, F1, C1, V1, ?_, k1⟩
    · have hkk := (cv_k C1 hp16).trans (kI_n (by omega))
      have hoo := (cv_o C1 hp16).trans (oI_n (by omega))
      rw [g3, hcl] at hkk
      rw [g2, how] at hoo
      have H1 := C1.1
      simp (disch := omega) only [fH_bringToFront, BH_bringToFront_62, BH_bringToFront_78, BH_bringToFront_105, fH_queueOf, gd1, bs1, ↓reduceIte, d_nz, d_nn, or_true, true_or, or_false, false_or, decide_true, Sum.elim_inl, Sum.elim_inr, ↓l_m1, l_0, l_1, l_2, l_3, l_4, l_5, l_6, l_7, l_8, l_9, l_10, l_16, l_17, l_18, l_20, l_23, l_24, l_30, l_31, l_32, l_39, l_40, l_41, l_48, l_57, l_58, l_59, l_60, l_63, l_90, l_97, l_98, l_99, l_100, l_102, l_103, l_104, l_107, l_109, l_112, l_115, l_116, l_117, l_120, l_122, l_126, l_166, l_180, l_240, l_255, l_640, l_999, l_2656, l_3064, l_3704, l_3708, l_3712, l_3713, l_3893, l_155720, l_1000000, n_ltT, n_ltF, n_leT, n_leF, n_eqT, n_eqF, n_eqm, n_eqm', n_mltn, n_mlen, n_nltm, n_nlem, n_mltm, n_mlem, n_add, n_mul, n_sub, n_subm, n_cl, n_ofNat, n_div, n_mod, obM_si, rdI_si, wrI_si, lnI_si, grM_si', tgM_si', obM_sa, rdI_sa, wrI_sa, lnI_sa, grM_sa', tgM_sa', hs_ob H, hs_g0 H, hs_g1 H, hs_g2 H, hs_g3 H, hs_g4 H, hs_g5 H, hs_g6 H, hs_g7 H, hs_g8 H, hs_t1 H, hs_r1 H, hs_w1 H, hs_l1 H, hs_t2 H, hs_r2 H, hs_w2 H, hs_l2 H, hs_t3 H, hs_r3 H, hs_w3 H, hs_l3 H, hs_t14 H, hs_r14 H, hs_w14 H, hs_l14 H, hs_t15 H, hs_r15 H, hs_w15 H, hs_l15 H, hs_ob4 H, hs_g4_0 H, hs_t5 H, hs_r5 H, hs_w5 H, hs_l5 H, hs_g4_1 H, hs_t6 H, hs_r6 H, hs_w6 H, hs_l6 H, hs_g4_2 H, hs_t7 H, hs_r7 H, hs_w7 H, hs_l7 H, hs_g4_3 H, hs_t8 H, hs_r8 H, hs_w8 H, hs_l8 H, hs_ob9 H, hs_g9_0 H, hs_t10 H, hs_r10 H, hs_w10 H, hs_l10 H, hs_g9_1 H, hs_t11 H, hs_r11 H, hs_w11 H, hs_l11 H, hs_g9_2 H, hs_t12 H, hs_r12 H, hs_w12 H, hs_l12 H, hs_g9_3 H, hs_t13 H, hs_r13 H, hs_w13 H, hs_l13 H, hs_ob16 H, hs_g16 H, hs_t17 H, hs_r17 H, hs_w17 H, hs_l17 H, hs_ob5 H, hs_g50 H, hs_g51 H, hs_tu6 H, hs_ru6 H, hs_wu6 H, hs_lu6 H, hs_tu7 H, hs_ru7 H, hs_wu7 H, hs_lu7 H, hs_ob H1, hs_g0 H1, hs_g1 H1, hs_g2 H1, hs_g3 H1, hs_g4 H1, hs_g5 H1, hs_g6 H1, hs_g7 H1, hs_g8 H1, hs_t1 H1, hs_r1 H1, hs_w1 H1, hs_l1 H1, hs_t2 H1, hs_r2 H1, hs_w2 H1, hs_l2 H1, hs_t3 H1, hs_r3 H1, hs_w3 H1, hs_l3 H1, hs_t14 H1, hs_r14 H1, hs_w14 H1, hs_l14 H1, hs_t15 H1, hs_r15 H1, hs_w15 H1, hs_l15 H1, hs_ob4 H1, hs_g4_0 H1, hs_t5 H1, hs_r5 H1, hs_w5 H1, hs_l5 H1, hs_g4_1 H1, hs_t6 H1, hs_r6 H1, hs_w6 H1, hs_l6 H1, hs_g4_2 H1, hs_t7 H1, hs_r7 H1, hs_w7 H1, hs_l7 H1, hs_g4_3 H1, hs_t8 H1, hs_r8 H1, hs_w8 H1, hs_l8 H1, hs_ob9 H1, hs_g9_0 H1, hs_t10 H1, hs_r10 H1, hs_w10 H1, hs_l10 H1, hs_g9_1 H1, hs_t11 H1, hs_r11 H1, hs_w11 H1, hs_l11 H1, hs_g9_2 H1, hs_t12 H1, hs_r12 H1, hs_w12 H1, hs_l12 H1, hs_g9_3 H1, hs_t13 H1, hs_r13 H1, hs_w13 H1, hs_l13 H1, hs_ob16 H1, hs_g16 H1, hs_t17 H1, hs_r17 H1, hs_w17 H1, hs_l17 H1, hs_ob5 H1, hs_g50 H1, hs_g51 H1, hs_tu6 H1, hs_ru6 H1, hs_wu6 H1, hs_lu6 H1, hs_tu7 H1, hs_ru7 H1, hs_wu7 H1, hs_lu7 H1, mul3, mul6, mul16, mul40, mul100, Nat.add_zero, e1, hkk, hoo]
    · unfold lst
      rw [g1]
      exact hl
theorem cNote {e : Nat × Nat × Nat} (C : CC M h ρ β S) (hβ : β < 2000000000) (ht : t < 4) (he : e.2.1 = t) : ∃ M', fL_note (h + 16) (nI e.1) (nI t) (nI e.2.2) (siM M (h + 15) t (giM M (h + 15) t + nI 1)) = some M' ∧ Fr M M' (h + 15) (h + 17) ∧ CC M' h ρ (β + 1) (oNote e (oGt t S)) := by
  have H := C.1
  have hb := hs_b H
  have R := C.2.1
  have hg := cv_gt C ht
  obtain ⟨-, -, hR, C1, C2, C3, C4, C5, n, n1, n2, n3, n4⟩ := C
  have hfm := fmod_ok (a := n) (b := 60) (M := siM M (h + 15) t (nI (gt S t + 1))) (by omega) (by omega) (by omega)
  have hlt : n % 60 < 60 := Nat.mod_lt _ (by omega)
  refine ⟨siM (siM (siM M (h + 15) t (nI (gt S t + 1))) (h + 17) (n % 60) (nI ((e.1 * 10 + t) * 10 + e.2.2))) (h + 16) 1 (nI (n + 1)), ?_, ⟨rfl, fun a ha => ?_⟩, HS_2 rfl H, RuC_of R ?_ ?_ ?_, hR, ?_, ?_, ?_, ?_, ?_, ?_⟩
  · rw [hg]
    simp (disch := omega) only [fL_note, gd1, bs1, ↓reduceIte, d_nz, d_nn, or_true, true_or, or_false, false_or, decide_true, Sum.elim_inl, Sum.elim_inr, ↓l_m1, l_0, l_1, l_2, l_3, l_4, l_5, l_6, l_7, l_8, l_9, l_10, l_16, l_17, l_18, l_20, l_23, l_24, l_30, l_31, l_32, l_39, l_40, l_41, l_48, l_57, l_58, l_59, l_60, l_63, l_90, l_97, l_98, l_99, l_100, l_102, l_103, l_104, l_107, l_109, l_112, l_115, l_116, l_117, l_120, l_122, l_126, l_166, l_180, l_240, l_255, l_640, l_999, l_2656, l_3064, l_3704, l_3708, l_3712, l_3713, l_3893, l_155720, l_1000000, n_ltT, n_ltF, n_leT, n_leF, n_eqT, n_eqF, n_eqm, n_eqm', n_mltn, n_mlen, n_nltm, n_nlem, n_mltm, n_mlem, n_add, n_mul, n_sub, n_subm, n_cl, n_ofNat, n_div, n_mod, obM_si, rdI_si, wrI_si, lnI_si, grM_si', tgM_si', obM_sa, rdI_sa, wrI_sa, lnI_sa, grM_sa', tgM_sa', hs_ob H, hs_g0 H, hs_g1 H, hs_g2 H, hs_g3 H, hs_g4 H, hs_g5 H, hs_g6 H, hs_g7 H, hs_g8 H, hs_t1 H, hs_r1 H, hs_w1 H, hs_l1 H, hs_t2 H, hs_r2 H, hs_w2 H, hs_l2 H, hs_t3 H, hs_r3 H, hs_w3 H, hs_l3 H, hs_t14 H, hs_r14 H, hs_w14 H, hs_l14 H, hs_t15 H, hs_r15 H, hs_w15 H, hs_l15 H, hs_ob4 H, hs_g4_0 H, hs_t5 H, hs_r5 H, hs_w5 H, hs_l5 H, hs_g4_1 H, hs_t6 H, hs_r6 H, hs_w6 H, hs_l6 H, hs_g4_2 H, hs_t7 H, hs_r7 H, hs_w7 H, hs_l7 H, hs_g4_3 H, hs_t8 H, hs_r8 H, hs_w8 H, hs_l8 H, hs_ob9 H, hs_g9_0 H, hs_t10 H, hs_r10 H, hs_w10 H, hs_l10 H, hs_g9_1 H, hs_t11 H, hs_r11 H, hs_w11 H, hs_l11 H, hs_g9_2 H, hs_t12 H, hs_r12 H, hs_w12 H, hs_l12 H, hs_g9_3 H, hs_t13 H, hs_r13 H, hs_w13 H, hs_l13 H, hs_ob16 H, hs_g16 H, hs_t17 H, hs_r17 H, hs_w17 H, hs_l17 H, hs_ob5 H, hs_g50 H, hs_g51 H, hs_tu6 H, hs_ru6 H, hs_wu6 H, hs_lu6 H, hs_tu7 H, hs_ru7 H, hs_wu7 H, hs_lu7 H, giM_un, n2, hfm]
  · simp (disch := omega) only [giM_un]
  · simp (disch := omega) only [giM_un]
  · simp (disch := omega) only [giM_un]
  · simp (disch := omega) only [giM_un]
  · simp (disch := omega) only [giM_un]
    exact C1
  · unfold ChM
    simp (disch := omega) only [giM_un]
    exact C2
  · unfold ChM
    simp (disch := omega) only [giM_un]
    exact C3
  · simp (disch := omega) only [giM_un]
    exact C4
  · intro x hx
    obtain ⟨c1, c2⟩ := C5 x hx
    simp (disch := omega) only [giM_un, giM_ud]
    refine ⟨c1, ?_⟩
    show _ = nI (ud (gt S) t (gt S t + 1) x)
    by_cases ex : x = t
    · rw [ex, ud_s, ud_s]
    · rw [ud_n _ _ ex, ud_n _ _ ex]
      exact c2
  · have n3 : (lg S).length = min n 60 := n3
    have elen : (List.take 60 (e :: lg S)).length = min (n + 1) 60 := by
      rw [List.length_take, List.length_cons]
      omega
    refine ⟨n + 1, by omega, by simp (disch := omega) only [giM_ud, giM_un, ud_s], elen, ?_⟩
    intro i hi
    have hi : i < (List.take 60 (e :: lg S)).length := hi
    have hi2 : i < min (n + 1) 60 := by rw [← elen]; exact hi
    simp (disch := omega) only [giM_ud, giM_un]
    show ud (giM M (h + 17)) (n % 60) _ ((n + 1 - 1 - i) % 60) = enc ((List.take 60 (e :: lg S))[i]'hi)
    rw [List.getElem_take]
    cases i with
    | zero =>
      rw [show n + 1 - 1 - 0 = n by omega, ud_s, List.getElem_cons_zero]
      unfold enc
      rw [he]
    | succ i =>
      rw [ud_n _ _ (by omega), List.getElem_cons_succ, show n + 1 - 1 - (i + 1) = n - 1 - i by omega]
      exact n4 i (by omega)
theorem inv_note {e : Nat × Nat × Nat} (V : Inv ρ β S) (he : e.1 < 1600 ∧ e.2.1 < 4 ∧ e.2.2 ≤ 5) : Inv ρ β (oNote e S) := by
  obtain ⟨h1, h2, h3, h4, h5, h6, h7⟩ := V
  refine ⟨h1, h2, h3, h4, h5, ?_, ?_⟩
  · show (List.take 60 (e :: lg S)).length ≤ 60
    rw [List.length_take]
    omega
  · intro x hx
    rcases List.mem_cons.mp (List.mem_of_mem_take hx) with rfl | hx
    · exact he
    · exact h7 x hx
theorem inv_gt (V : Inv ρ β S) : Inv ρ (β + 1) (oGt t S) := by
  obtain ⟨h1, h2, h3, h4, h5, h6⟩ := V
  refine ⟨h1, h2, h3, h4, fun x hx => ?_, h6⟩
  have := h5 x hx
  show lv S x ≤ 1 ∧ ud (gt S) t (gt S t + 1) x ≤ β + 1
  by_cases ex : x = t
  · subst ex; rw [ud_s]; omega
  · rw [ud_n _ _ ex]; omega
theorem kf_loop (H : HS M h) (R : RuC M ρ) (hR : RuOK ρ) {v : Int32} (hv : ¬ v < nI 1) : ∀ (k f i : Nat), i + k = rK ρ → k < f → LU_kindFor_2 f 5 v (nI i) M = some ((lo (fun k => decide (v ≤ nI (rZ ρ k))) i k).elim (.inr M) (fun p => .inl (nI p, M))) := by
  have hb := ru_b hR
  intro k
  induction k with
  | zero =>
    intro f i hi hf
    obtain ⟨g, rfl⟩ : ∃ g, f = g + 1 := ⟨f - 1, by omega⟩
    show BU_kindFor_2 (LU_kindFor_2 g) 5 v (nI i) M = some (.inr M)
    simp (disch := omega) only [BU_kindFor_2, gd1, bs1, ↓reduceIte, d_nz, d_nn, or_true, true_or, or_false, false_or, decide_true, Sum.elim_inl, Sum.elim_inr, ↓l_m1, l_0, l_1, l_2, l_3, l_4, l_5, l_6, l_7, l_8, l_9, l_10, l_16, l_17, l_18, l_20, l_23, l_24, l_30, l_31, l_32, l_39, l_40, l_41, l_48, l_57, l_58, l_59, l_60, l_63, l_90, l_97, l_98, l_99, l_100, l_102, l_103, l_104, l_107, l_109, l_112, l_115, l_116, l_117, l_120, l_122, l_126, l_166, l_180, l_240, l_255, l_640, l_999, l_2656, l_3064, l_3704, l_3708, l_3712, l_3713, l_3893, l_155720, l_1000000, n_ltT, n_ltF, n_leT, n_leF, n_eqT, n_eqF, n_eqm, n_eqm', n_mltn, n_mlen, n_nltm, n_nlem, n_mltm, n_mlem, n_add, n_mul, n_sub, n_subm, n_cl, n_ofNat, n_div, n_mod, obM_si, rdI_si, wrI_si, lnI_si, grM_si', tgM_si', obM_sa, rdI_sa, wrI_sa, lnI_sa, grM_sa', tgM_sa', hs_ob H, hs_g0 H, hs_g1 H, hs_g2 H, hs_g3 H, hs_g4 H, hs_g5 H, hs_g6 H, hs_g7 H, hs_g8 H, hs_t1 H, hs_r1 H, hs_w1 H, hs_l1 H, hs_t2 H, hs_r2 H, hs_w2 H, hs_l2 H, hs_t3 H, hs_r3 H, hs_w3 H, hs_l3 H, hs_t14 H, hs_r14 H, hs_w14 H, hs_l14 H, hs_t15 H, hs_r15 H, hs_w15 H, hs_l15 H, hs_ob4 H, hs_g4_0 H, hs_t5 H, hs_r5 H, hs_w5 H, hs_l5 H, hs_g4_1 H, hs_t6 H, hs_r6 H, hs_w6 H, hs_l6 H, hs_g4_2 H, hs_t7 H, hs_r7 H, hs_w7 H, hs_l7 H, hs_g4_3 H, hs_t8 H, hs_r8 H, hs_w8 H, hs_l8 H, hs_ob9 H, hs_g9_0 H, hs_t10 H, hs_r10 H, hs_w10 H, hs_l10 H, hs_g9_1 H, hs_t11 H, hs_r11 H, hs_w11 H, hs_l11 H, hs_g9_2 H, hs_t12 H, hs_r12 H, hs_w12 H, hs_l12 H, hs_g9_3 H, hs_t13 H, hs_r13 H, hs_w13 H, hs_l13 H, hs_ob16 H, hs_g16 H, hs_t17 H, hs_r17 H, hs_w17 H, hs_l17 H, hs_ob5 H, hs_g50 H, hs_g51 H, hs_tu6 H, hs_ru6 H, hs_wu6 H, hs_lu6 H, hs_tu7 H, hs_ru7 H, hs_wu7 H, hs_lu7 H, rc_T R, rc_P R, rc_U R, rc_B R, rc_H R, rc_K R]
  | succ k ih =>
    intro f i hi hf
    obtain ⟨g, rfl⟩ : ∃ g, f = g + 1 := ⟨f - 1, by omega⟩
    have hz := rc_Z R (k := i) (by omega)
    have h1 := ih g (i + 1) (by omega) (by omega)
    show BU_kindFor_2 (LU_kindFor_2 g) 5 v (nI i) M = _
    by_cases hl : v ≤ nI (rZ ρ i)
    · rw [show lo (fun k => decide (v ≤ nI (rZ ρ k))) i (k + 1) = some i from if_pos (decide_eq_true hl)]
      have h2 : ¬ nI (rZ ρ i) < v := fun w => Int32.lt_irrefl (Int32.lt_of_lt_of_le w hl)
      simp (disch := omega) only [BU_kindFor_2, gd1, bs1, ↓reduceIte, d_nz, d_nn, or_true, true_or, or_false, false_or, decide_true, Sum.elim_inl, Sum.elim_inr, ↓l_m1, l_0, l_1, l_2, l_3, l_4, l_5, l_6, l_7, l_8, l_9, l_10, l_16, l_17, l_18, l_20, l_23, l_24, l_30, l_31, l_32, l_39, l_40, l_41, l_48, l_57, l_58, l_59, l_60, l_63, l_90, l_97, l_98, l_99, l_100, l_102, l_103, l_104, l_107, l_109, l_112, l_115, l_116, l_117, l_120, l_122, l_126, l_166, l_180, l_240, l_255, l_640, l_999, l_2656, l_3064, l_3704, l_3708, l_3712, l_3713, l_3893, l_155720, l_1000000, n_ltT, n_ltF, n_leT, n_leF, n_eqT, n_eqF, n_eqm, n_eqm', n_mltn, n_mlen, n_nltm, n_nlem, n_mltm, n_mlem, n_add, n_mul, n_sub, n_subm, n_cl, n_ofNat, n_div, n_mod, obM_si, rdI_si, wrI_si, lnI_si, grM_si', tgM_si', obM_sa, rdI_sa, wrI_sa, lnI_sa, grM_sa', tgM_sa', hs_ob H, hs_g0 H, hs_g1 H, hs_g2 H, hs_g3 H, hs_g4 H, hs_g5 H, hs_g6 H, hs_g7 H, hs_g8 H, hs_t1 H, hs_r1 H, hs_w1 H, hs_l1 H, hs_t2 H, hs_r2 H, hs_w2 H, hs_l2 H, hs_t3 H, hs_r3 H, hs_w3 H, hs_l3 H, hs_t14 H, hs_r14 H, hs_w14 H, hs_l14 H, hs_t15 H, hs_r15 H, hs_w15 H, hs_l15 H, hs_ob4 H, hs_g4_0 H, hs_t5 H, hs_r5 H, hs_w5 H, hs_l5 H, hs_g4_1 H, hs_t6 H, hs_r6 H, hs_w6 H, hs_l6 H, hs_g4_2 H, hs_t7 H, hs_r7 H, hs_w7 H, hs_l7 H, hs_g4_3 H, hs_t8 H, hs_r8 H, hs_w8 H, hs_l8 H, hs_ob9 H, hs_g9_0 H, hs_t10 H, hs_r10 H, hs_w10 H, hs_l10 H, hs_g9_1 H, hs_t11 H, hs_r11 H, hs_w11 H, hs_l11 H, hs_g9_2 H, hs_t12 H, hs_r12 H, hs_w12 H, hs_l12 H, hs_g9_3 H, hs_t13 H, hs_r13 H, hs_w13 H, hs_l13 H, hs_ob16 H, hs_g16 H, hs_t17 H, hs_r17 H, hs_w17 H, hs_l17 H, hs_ob5 H, hs_g50 H, hs_g51 H, hs_tu6 H, hs_ru6 H, hs_wu6 H, hs_lu6 H, hs_tu7 H, hs_ru7 H, hs_wu7 H, hs_lu7 H, rc_T R, rc_P R, rc_U R, rc_B R, rc_H R, rc_K R, hv, hz, h2, Option.elim_some]
    · rw [show lo (fun k => decide (v ≤ nI (rZ ρ k))) i (k + 1) = lo (fun k => decide (v ≤ nI (rZ ρ k))) (i + 1) k from if_neg (by rw [decide_eq_true_eq]; exact hl)]
      have h2 : nI (rZ ρ i) < v := Int32.not_le.mp hl
      simp (disch := omega) only [BU_kindFor_2, gd1, bs1, ↓reduceIte, d_nz, d_nn, or_true, true_or, or_false, false_or, decide_true, Sum.elim_inl, Sum.elim_inr, ↓l_m1, l_0, l_1, l_2, l_3, l_4, l_5, l_6, l_7, l_8, l_9, l_10, l_16, l_17, l_18, l_20, l_23, l_24, l_30, l_31, l_32, l_39, l_40, l_41, l_48, l_57, l_58, l_59, l_60, l_63, l_90, l_97, l_98, l_99, l_100, l_102, l_103, l_104, l_107, l_109, l_112, l_115, l_116, l_117, l_120, l_122, l_126, l_166, l_180, l_240, l_255, l_640, l_999, l_2656, l_3064, l_3704, l_3708, l_3712, l_3713, l_3893, l_155720, l_1000000, n_ltT, n_ltF, n_leT, n_leF, n_eqT, n_eqF, n_eqm, n_eqm', n_mltn, n_mlen, n_nltm, n_nlem, n_mltm, n_mlem, n_add, n_mul, n_sub, n_subm, n_cl, n_ofNat, n_div, n_mod, obM_si, rdI_si, wrI_si, lnI_si, grM_si', tgM_si', obM_sa, rdI_sa, wrI_sa, lnI_sa, grM_sa', tgM_sa', hs_ob H, hs_g0 H, hs_g1 H, hs_g2 H, hs_g3 H, hs_g4 H, hs_g5 H, hs_g6 H, hs_g7 H, hs_g8 H, hs_t1 H, hs_r1 H, hs_w1 H, hs_l1 H, hs_t2 H, hs_r2 H, hs_w2 H, hs_l2 H, hs_t3 H, hs_r3 H, hs_w3 H, hs_l3 H, hs_t14 H, hs_r14 H, hs_w14 H, hs_l14 H, hs_t15 H, hs_r15 H, hs_w15 H, hs_l15 H, hs_ob4 H, hs_g4_0 H, hs_t5 H, hs_r5 H, hs_w5 H, hs_l5 H, hs_g4_1 H, hs_t6 H, hs_r6 H, hs_w6 H, hs_l6 H, hs_g4_2 H, hs_t7 H, hs_r7 H, hs_w7 H, hs_l7 H, hs_g4_3 H, hs_t8 H, hs_r8 H, hs_w8 H, hs_l8 H, hs_ob9 H, hs_g9_0 H, hs_t10 H, hs_r10 H, hs_w10 H, hs_l10 H, hs_g9_1 H, hs_t11 H, hs_r11 H, hs_w11 H, hs_l11 H, hs_g9_2 H, hs_t12 H, hs_r12 H, hs_w12 H, hs_l12 H, hs_g9_3 H, hs_t13 H, hs_r13 H, hs_w13 H, hs_l13 H, hs_ob16 H, hs_g16 H, hs_t17 H, hs_r17 H, hs_w17 H, hs_l17 H, hs_ob5 H, hs_g50 H, hs_g51 H, hs_tu6 H, hs_ru6 H, hs_wu6 H, hs_lu6 H, hs_tu7 H, hs_ru7 H, hs_wu7 H, hs_lu7 H, rc_T R, rc_P R, rc_U R, rc_B R, rc_H R, rc_K R, hv, hz, h2, h1]
theorem kindFor_ok (H : HS M h) (R : RuC M ρ) (hR : RuOK ρ) (v : Int32) : fU_kindFor 5 v M = some (oN (kcF ρ v), M) := by
  have hb := ru_b hR
  unfold kcF
  by_cases hv : v < nI 1
  · rw [if_pos hv]
    have e : LU_kindFor_2 1000000 5 v (nI 0) M = some (.inr M) := by
      show BU_kindFor_2 (LU_kindFor_2 999999) 5 v (nI 0) M = _
      simp (disch := omega) only [BU_kindFor_2, gd1, bs1, ↓reduceIte, d_nz, d_nn, or_true, true_or, or_false, false_or, decide_true, Sum.elim_inl, Sum.elim_inr, ↓l_m1, l_0, l_1, l_2, l_3, l_4, l_5, l_6, l_7, l_8, l_9, l_10, l_16, l_17, l_18, l_20, l_23, l_24, l_30, l_31, l_32, l_39, l_40, l_41, l_48, l_57, l_58, l_59, l_60, l_63, l_90, l_97, l_98, l_99, l_100, l_102, l_103, l_104, l_107, l_109, l_112, l_115, l_116, l_117, l_120, l_122, l_126, l_166, l_180, l_240, l_255, l_640, l_999, l_2656, l_3064, l_3704, l_3708, l_3712, l_3713, l_3893, l_155720, l_1000000, n_ltT, n_ltF, n_leT, n_leF, n_eqT, n_eqF, n_eqm, n_eqm', n_mltn, n_mlen, n_nltm, n_nlem, n_mltm, n_mlem, n_add, n_mul, n_sub, n_subm, n_cl, n_ofNat, n_div, n_mod, obM_si, rdI_si, wrI_si, lnI_si, grM_si', tgM_si', obM_sa, rdI_sa, wrI_sa, lnI_sa, grM_sa', tgM_sa', hs_ob H, hs_g0 H, hs_g1 H, hs_g2 H, hs_g3 H, hs_g4 H, hs_g5 H, hs_g6 H, hs_g7 H, hs_g8 H, hs_t1 H, hs_r1 H, hs_w1 H, hs_l1 H, hs_t2 H, hs_r2 H, hs_w2 H, hs_l2 H, hs_t3 H, hs_r3 H, hs_w3 H, hs_l3 H, hs_t14 H, hs_r14 H, hs_w14 H, hs_l14 H, hs_t15 H, hs_r15 H, hs_w15 H, hs_l15 H, hs_ob4 H, hs_g4_0 H, hs_t5 H, hs_r5 H, hs_w5 H, hs_l5 H, hs_g4_1 H, hs_t6 H, hs_r6 H, hs_w6 H, hs_l6 H, hs_g4_2 H, hs_t7 H, hs_r7 H, hs_w7 H, hs_l7 H, hs_g4_3 H, hs_t8 H, hs_r8 H, hs_w8 H, hs_l8 H, hs_ob9 H, hs_g9_0 H, hs_t10 H, hs_r10 H, hs_w10 H, hs_l10 H, hs_g9_1 H, hs_t11 H, hs_r11 H, hs_w11 H, hs_l11 H, hs_g9_2 H, hs_t12 H, hs_r12 H, hs_w12 H, hs_l12 H, hs_g9_3 H, hs_t13 H, hs_r13 H, hs_w13 H, hs_l13 H, hs_ob16 H, hs_g16 H, hs_t17 H, hs_r17 H, hs_w17 H, hs_l17 H, hs_ob5 H, hs_g50 H, hs_g51 H, hs_tu6 H, hs_ru6 H, hs_wu6 H, hs_lu6 H, hs_tu7 H, hs_ru7 H, hs_wu7 H, hs_lu7 H, rc_T R, rc_P R, rc_U R, rc_B R, rc_H R, rc_K R, hv]
    simp only [fU_kindFor, BU_kindFor_33, ↓l_m1, l_0, l_1, l_2, l_3, l_4, l_5, l_6, l_7, l_8, l_9, l_10, l_16, l_17, l_18, l_20, l_23, l_24, l_30, l_31, l_32, l_39, l_40, l_41, l_48, l_57, l_58, l_59, l_60, l_63, l_90, l_97, l_98, l_99, l_100, l_102, l_103, l_104, l_107, l_109, l_112, l_115, l_116, l_117, l_120, l_122, l_126, l_166, l_180, l_240, l_255, l_640, l_999, l_2656, l_3064, l_3704, l_3708, l_3712, l_3713, l_3893, l_155720, l_1000000, e, bs1, Sum.elim_inr, oN]
  · rw [if_neg hv]
    have e := kf_loop H R hR hv (rK ρ) 1000000 0 (by omega) (by omega)
    cases h1 : lo (fun k => decide (v ≤ nI (rZ ρ k))) 0 (rK ρ) with
    | none =>
      rw [h1, Option.elim_none] at e
      simp only [fU_kindFor, BU_kindFor_33, ↓l_m1, l_0, l_1, l_2, l_3, l_4, l_5, l_6, l_7, l_8, l_9, l_10, l_16, l_17, l_18, l_20, l_23, l_24, l_30, l_31, l_32, l_39, l_40, l_41, l_48, l_57, l_58, l_59, l_60, l_63, l_90, l_97, l_98, l_99, l_100, l_102, l_103, l_104, l_107, l_109, l_112, l_115, l_116, l_117, l_120, l_122, l_126, l_166, l_180, l_240, l_255, l_640, l_999, l_2656, l_3064, l_3704, l_3708, l_3712, l_3713, l_3893, l_155720, l_1000000, e, bs1, Sum.elim_inr, oN]
    | some k =>
      rw [h1, Option.elim_some] at e
      simp only [fU_kindFor, BU_kindFor_33, ↓l_m1, l_0, l_1, l_2, l_3, l_4, l_5, l_6, l_7, l_8, l_9, l_10, l_16, l_17, l_18, l_20, l_23, l_24, l_30, l_31, l_32, l_39, l_40, l_41, l_48, l_57, l_58, l_59, l_60, l_63, l_90, l_97, l_98, l_99, l_100, l_102, l_103, l_104, l_107, l_109, l_112, l_115, l_116, l_117, l_120, l_122, l_126, l_166, l_180, l_240, l_255, l_640, l_999, l_2656, l_3064, l_3704, l_3708, l_3712, l_3713, l_3893, l_155720, l_1000000, e, bs1, Sum.elim_inl, oN]
theorem kcF_lt {v : Int32} (e : kcF ρ v = some c) : c < rK ρ := by
  unfold kcF at e
  by_cases hv : v < nI 1
  · rw [if_pos hv] at e; cases e
  · rw [if_neg hv] at e
    have := (lo_spec e).2.1
    omega
theorem cTakeNo (C : CC M h ρ β S) (V : Inv ρ β S) {v : Int32} (ht : t < 100) (hno : kcF ρ v = none ∨ ¬ (t < rT ρ ∧ lv S t = 1) ∨ ∃ c, kcF ρ v = some c ∧ pgF ρ t c S = none) : fH_takeBlock h (nI t) v M = some (mI, M) := by
  have H := C.1
  have hR := ru_b C.2.2.1
  have hk := kindFor_ok H C.2.1 C.2.2.1 v
  cases e : kcF ρ v with
  | none =>
    rw [e] at hk
    have hk : fU_kindFor 5 v M = some (mI, M) := hk
    simp (disch := omega) only [fH_takeBlock, BH_takeBlock_22, BH_takeBlock_32, gd1, bs1, ↓reduceIte, d_nz, d_nn, or_true, true_or, or_false, false_or, decide_true, Sum.elim_inl, Sum.elim_inr, ↓l_m1, l_0, l_1, l_2, l_3, l_4, l_5, l_6, l_7, l_8, l_9, l_10, l_16, l_17, l_18, l_20, l_23, l_24, l_30, l_31, l_32, l_39, l_40, l_41, l_48, l_57, l_58, l_59, l_60, l_63, l_90, l_97, l_98, l_99, l_100, l_102, l_103, l_104, l_107, l_109, l_112, l_115, l_116, l_117, l_120, l_122, l_126, l_166, l_180, l_240, l_255, l_640, l_999, l_2656, l_3064, l_3704, l_3708, l_3712, l_3713, l_3893, l_155720, l_1000000, n_ltT, n_ltF, n_leT, n_leF, n_eqT, n_eqF, n_eqm, n_eqm', n_mltn, n_mlen, n_nltm, n_nlem, n_mltm, n_mlem, n_add, n_mul, n_sub, n_subm, n_cl, n_ofNat, n_div, n_mod, obM_si, rdI_si, wrI_si, lnI_si, grM_si', tgM_si', obM_sa, rdI_sa, wrI_sa, lnI_sa, grM_sa', tgM_sa', hs_ob H, hs_g0 H, hs_g1 H, hs_g2 H, hs_g3 H, hs_g4 H, hs_g5 H, hs_g6 H, hs_g7 H, hs_g8 H, hs_t1 H, hs_r1 H, hs_w1 H, hs_l1 H, hs_t2 H, hs_r2 H, hs_w2 H, hs_l2 H, hs_t3 H, hs_r3 H, hs_w3 H, hs_l3 H, hs_t14 H, hs_r14 H, hs_w14 H, hs_l14 H, hs_t15 H, hs_r15 H, hs_w15 H, hs_l15 H, hs_ob4 H, hs_g4_0 H, hs_t5 H, hs_r5 H, hs_w5 H, hs_l5 H, hs_g4_1 H, hs_t6 H, hs_r6 H, hs_w6 H, hs_l6 H, hs_g4_2 H, hs_t7 H, hs_r7 H, hs_w7 H, hs_l7 H, hs_g4_3 H, hs_t8 H, hs_r8 H, hs_w8 H, hs_l8 H, hs_ob9 H, hs_g9_0 H, hs_t10 H, hs_r10 H, hs_w10 H, hs_l10 H, hs_g9_1 H, hs_t11 H, hs_r11 H, hs_w11 H, hs_l11 H, hs_g9_2 H, hs_t12 H, hs_r12 H, hs_w12 H, hs_l12 H, hs_g9_3 H, hs_t13 H, hs_r13 H, hs_w13 H, hs_l13 H, hs_ob16 H, hs_g16 H, hs_t17 H, hs_r17 H, hs_w17 H, hs_l17 H, hs_ob5 H, hs_g50 H, hs_g51 H, hs_tu6 H, hs_ru6 H, hs_wu6 H, hs_lu6 H, hs_tu7 H, hs_ru7 H, hs_wu7 H, hs_lu7 H, hk]
  | some c =>
    have hc := kcF_lt e
    rw [e] at hk
    have hk : fU_kindFor 5 v M = some (nI c, M) := hk
    by_cases hT : t < rT ρ
    · have hL := isLiving_ok C V hT
      have hv := (V.2.2.2.2.1 t (by omega)).1
      by_cases hl : lv S t = 1
      · rw [hl] at hL
        have hp : pgF ρ t c S = none := by
          rcases hno with w | w | ⟨c', w1, w2⟩
          · rw [e] at w; cases w
          · exact absurd ⟨hT, hl⟩ w
          · rw [e] at w1; cases w1; exact w2
        have hpf := pageFor_ok C V hT hc
        rw [hp] at hpf
        have hpf : fH_pageFor h (nI t) (nI c) M = some (mI, M) := hpf
        simp (disch := omega) only [fH_takeBlock, BH_takeBlock_22, BH_takeBlock_32, gd1, bs1, ↓reduceIte, d_nz, d_nn, or_true, true_or, or_false, false_or, decide_true, Sum.elim_inl, Sum.elim_inr, ↓l_m1, l_0, l_1, l_2, l_3, l_4, l_5, l_6, l_7, l_8, l_9, l_10, l_16, l_17, l_18, l_20, l_23, l_24, l_30, l_31, l_32, l_39, l_40, l_41, l_48, l_57, l_58, l_59, l_60, l_63, l_90, l_97, l_98, l_99, l_100, l_102, l_103, l_104, l_107, l_109, l_112, l_115, l_116, l_117, l_120, l_122, l_126, l_166, l_180, l_240, l_255, l_640, l_999, l_2656, l_3064, l_3704, l_3708, l_3712, l_3713, l_3893, l_155720, l_1000000, n_ltT, n_ltF, n_leT, n_leF, n_eqT, n_eqF, n_eqm, n_eqm', n_mltn, n_mlen, n_nltm, n_nlem, n_mltm, n_mlem, n_add, n_mul, n_sub, n_subm, n_cl, n_ofNat, n_div, n_mod, obM_si, rdI_si, wrI_si, lnI_si, grM_si', tgM_si', obM_sa, rdI_sa, wrI_sa, lnI_sa, grM_sa', tgM_sa', hs_ob H, hs_g0 H, hs_g1 H, hs_g2 H, hs_g3 H, hs_g4 H, hs_g5 H, hs_g6 H, hs_g7 H, hs_g8 H, hs_t1 H, hs_r1 H, hs_w1 H, hs_l1 H, hs_t2 H, hs_r2 H, hs_w2 H, hs_l2 H, hs_t3 H, hs_r3 H, hs_w3 H, hs_l3 H, hs_t14 H, hs_r14 H, hs_w14 H, hs_l14 H, hs_t15 H, hs_r15 H, hs_w15 H, hs_l15 H, hs_ob4 H, hs_g4_0 H, hs_t5 H, hs_r5 H, hs_w5 H, hs_l5 H, hs_g4_1 H, hs_t6 H, hs_r6 H, hs_w6 H, hs_l6 H, hs_g4_2 H, hs_t7 H, hs_r7 H, hs_w7 H, hs_l7 H, hs_g4_3 H, hs_t8 H, hs_r8 H, hs_w8 H, hs_l8 H, hs_ob9 H, hs_g9_0 H, hs_t10 H, hs_r10 H, hs_w10 H, hs_l10 H, hs_g9_1 H, hs_t11 H, hs_r11 H, hs_w11 H, hs_l11 H, hs_g9_2 H, hs_t12 H, hs_r12 H, hs_w12 H, hs_l12 H, hs_g9_3 H, hs_t13 H, hs_r13 H, hs_w13 H, hs_l13 H, hs_ob16 H, hs_g16 H, hs_t17 H, hs_r17 H, hs_w17 H, hs_l17 H, hs_ob5 H, hs_g50 H, hs_g51 H, hs_tu6 H, hs_ru6 H, hs_wu6 H, hs_lu6 H, hs_tu7 H, hs_ru7 H, hs_wu7 H, hs_lu7 H, hk, hL, hpf]
      · rw [show lv S t = 0 by omega] at hL
        simp (disch := omega) only [fH_takeBlock, BH_takeBlock_22, BH_takeBlock_32, gd1, bs1, ↓reduceIte, d_nz, d_nn, or_true, true_or, or_false, false_or, decide_true, Sum.elim_inl, Sum.elim_inr, ↓l_m1, l_0, l_1, l_2, l_3, l_4, l_5, l_6, l_7, l_8, l_9, l_10, l_16, l_17, l_18, l_20, l_23, l_24, l_30, l_31, l_32, l_39, l_40, l_41, l_48, l_57, l_58, l_59, l_60, l_63, l_90, l_97, l_98, l_99, l_100, l_102, l_103, l_104, l_107, l_109, l_112, l_115, l_116, l_117, l_120, l_122, l_126, l_166, l_180, l_240, l_255, l_640, l_999, l_2656, l_3064, l_3704, l_3708, l_3712, l_3713, l_3893, l_155720, l_1000000, n_ltT, n_ltF, n_leT, n_leF, n_eqT, n_eqF, n_eqm, n_eqm', n_mltn, n_mlen, n_nltm, n_nlem, n_mltm, n_mlem, n_add, n_mul, n_sub, n_subm, n_cl, n_ofNat, n_div, n_mod, obM_si, rdI_si, wrI_si, lnI_si, grM_si', tgM_si', obM_sa, rdI_sa, wrI_sa, lnI_sa, grM_sa', tgM_sa', hs_ob H, hs_g0 H, hs_g1 H, hs_g2 H, hs_g3 H, hs_g4 H, hs_g5 H, hs_g6 H, hs_g7 H, hs_g8 H, hs_t1 H, hs_r1 H, hs_w1 H, hs_l1 H, hs_t2 H, hs_r2 H, hs_w2 H, hs_l2 H, hs_t3 H, hs_r3 H, hs_w3 H, hs_l3 H, hs_t14 H, hs_r14 H, hs_w14 H, hs_l14 H, hs_t15 H, hs_r15 H, hs_w15 H, hs_l15 H, hs_ob4 H, hs_g4_0 H, hs_t5 H, hs_r5 H, hs_w5 H, hs_l5 H, hs_g4_1 H, hs_t6 H, hs_r6 H, hs_w6 H, hs_l6 H, hs_g4_2 H, hs_t7 H, hs_r7 H, hs_w7 H, hs_l7 H, hs_g4_3 H, hs_t8 H, hs_r8 H, hs_w8 H, hs_l8 H, hs_ob9 H, hs_g9_0 H, hs_t10 H, hs_r10 H, hs_w10 H, hs_l10 H, hs_g9_1 H, hs_t11 H, hs_r11 H, hs_w11 H, hs_l11 H, hs_g9_2 H, hs_t12 H, hs_r12 H, hs_w12 H, hs_l12 H, hs_g9_3 H, hs_t13 H, hs_r13 H, hs_w13 H, hs_l13 H, hs_ob16 H, hs_g16 H, hs_t17 H, hs_r17 H, hs_w17 H, hs_l17 H, hs_ob5 H, hs_g50 H, hs_g51 H, hs_tu6 H, hs_ru6 H, hs_wu6 H, hs_lu6 H, hs_tu7 H, hs_ru7 H, hs_wu7 H, hs_lu7 H, hk, hL]
    · have hL := isLiving_F C (v := nI t) (Or.inr (nI_le (by omega) (by omega)))
      simp (disch := omega) only [fH_takeBlock, BH_takeBlock_22, BH_takeBlock_32, gd1, bs1, ↓reduceIte, d_nz, d_nn, or_true, true_or, or_false, false_or, decide_true, Sum.elim_inl, Sum.elim_inr, ↓l_m1, l_0, l_1, l_2, l_3, l_4, l_5, l_6, l_7, l_8, l_9, l_10, l_16, l_17, l_18, l_20, l_23, l_24, l_30, l_31, l_32, l_39, l_40, l_41, l_48, l_57, l_58, l_59, l_60, l_63, l_90, l_97, l_98, l_99, l_100, l_102, l_103, l_104, l_107, l_109, l_112, l_115, l_116, l_117, l_120, l_122, l_126, l_166, l_180, l_240, l_255, l_640, l_999, l_2656, l_3064, l_3704, l_3708, l_3712, l_3713, l_3893, l_155720, l_1000000, n_ltT, n_ltF, n_leT, n_leF, n_eqT, n_eqF, n_eqm, n_eqm', n_mltn, n_mlen, n_nltm, n_nlem, n_mltm, n_mlem, n_add, n_mul, n_sub, n_subm, n_cl, n_ofNat, n_div, n_mod, obM_si, rdI_si, wrI_si, lnI_si, grM_si', tgM_si', obM_sa, rdI_sa, wrI_sa, lnI_sa, grM_sa', tgM_sa', hs_ob H, hs_g0 H, hs_g1 H, hs_g2 H, hs_g3 H, hs_g4 H, hs_g5 H, hs_g6 H, hs_g7 H, hs_g8 H, hs_t1 H, hs_r1 H, hs_w1 H, hs_l1 H, hs_t2 H, hs_r2 H, hs_w2 H, hs_l2 H, hs_t3 H, hs_r3 H, hs_w3 H, hs_l3 H, hs_t14 H, hs_r14 H, hs_w14 H, hs_l14 H, hs_t15 H, hs_r15 H, hs_w15 H, hs_l15 H, hs_ob4 H, hs_g4_0 H, hs_t5 H, hs_r5 H, hs_w5 H, hs_l5 H, hs_g4_1 H, hs_t6 H, hs_r6 H, hs_w6 H, hs_l6 H, hs_g4_2 H, hs_t7 H, hs_r7 H, hs_w7 H, hs_l7 H, hs_g4_3 H, hs_t8 H, hs_r8 H, hs_w8 H, hs_l8 H, hs_ob9 H, hs_g9_0 H, hs_t10 H, hs_r10 H, hs_w10 H, hs_l10 H, hs_g9_1 H, hs_t11 H, hs_r11 H, hs_w11 H, hs_l11 H, hs_g9_2 H, hs_t12 H, hs_r12 H, hs_w12 H, hs_l12 H, hs_g9_3 H, hs_t13 H, hs_r13 H, hs_w13 H, hs_l13 H, hs_ob16 H, hs_g16 H, hs_t17 H, hs_r17 H, hs_w17 H, hs_l17 H, hs_ob5 H, hs_g50 H, hs_g51 H, hs_tu6 H, hs_ru6 H, hs_wu6 H, hs_lu6 H, hs_tu7 H, hs_ru7 H, hs_wu7 H, hs_lu7 H, hk, hL]
theorem hwF_le : hwF t p S ≤ 5 := by
  unfold hwF
  repeat' split
  all_goals omega
theorem cTakeYes (C : CC M h ρ β S) (V : Inv ρ β S) (hβ : β < 2000000000) {v : Int32} (ht : t < rT ρ) (hl : lv S t = 1) (hk : kcF ρ v = some c) (hp : pgF ρ t c S = some p) : ∃ M', fH_takeBlock h (nI t) v M = some (nI (100 * p + aBlk ρ t c p S), M') ∧ Fr M M' (h + 1) (h + 17) ∧ CC M' h ρ (β + 1) (oNote (100 * p + aBlk ρ t c p S, t, hwF t p S) (aGet ρ t c p S)) ∧ Inv ρ (β + 1) (oNote (100 * p + aBlk ρ t c p S, t, hwF t p S) (aGet ρ t c p S)) ∧ aBlk ρ t c p S < 40 ∧ p < rP ρ := by
  have H := C.1
  have hb := hs_b H
  have R := C.2.1
  have hR := ru_b C.2.2.1
  have hc := kcF_lt hk
  have hkf := kindFor_ok H R C.2.2.1 v
  rw [hk] at hkf
  have hkf : fU_kindFor 5 v M = some (nI c, M) := hkf
  have hL := isLiving_ok C V ht
  rw [hl] at hL
  have hpf := pageFor_ok C V ht hc
  rw [hp] at hpf
  have hpf : fH_pageFor h (nI t) (nI c) M = some (nI p, M) := hpf
  obtain ⟨hpP, hcs⟩ := pgF_cases C.2.2.1 V ht hc hp
  have hp16 : p < 16 := by omega
  have hhow := how_ok C V ht hpP (by rcases hcs with w | w | w <;> omega)
  obtain ⟨M1, e1, F1, C1, V1, hl1, hk1⟩ := cBring C V ht hc hp
  obtain ⟨M2, b, r, eb, e2, F2, C2, V2⟩ := cReady C1 V1 hp16 hl1 (by omega)
  have hbk : aBlk ρ t c p S = b := by
    unfold aBlk
    rw [eb]
    rfl
  have VC := inv_coll hp16 V1 (show kd (aG2 ρ t c p S) p ≠ 2 by omega)
  have hb40 : b < 40 := by
    have h1 := (in_cut VC.2.1 hp16 (Or.inl rfl) (b := b) (by rw [eb]; exact List.mem_cons_self)).1
    have h2 := cut_le C.2.2.1 VC.1 hp16
    omega
  have hw := hwF_le (t := t) (p := p) (S := S)
  obtain ⟨M3, e3, F3, C3⟩ := cNote (e := (100 * p + b, t, hwF t p S)) C2 hβ (t := t) (by omega) rfl
  have C3 : CC M3 h ρ (β + 1) (oNote (100 * p + b, t, hwF t p S) (aGot ρ t c p S)) := C3
  have V3 : Inv ρ (β + 1) (oNote (100 * p + b, t, hwF t p S) (aGot ρ t c p S)) := inv_note (inv_gt V2) ⟨by show 100 * p + b < 1600; omega, by show t < 4; omega, hw⟩
  have e3 : fL_note (h + 16) (nI (100 * p + b)) (nI t) (nI (hwF t p S)) (siM M2 (h + 15) t (giM M2 (h + 15) t + nI 1)) = some M3 := e3
  have hg := cv_gt C3 (t := t) (by omega)
  have hg : giM M3 (h + 15) t = nI (gt (aGot ρ t c p S) t) := hg
  have hgb : gt (aGot ρ t c p S) t ≤ β + 1 := (V3.2.2.2.2.1 t (by omega)).2
  have hmod := Nat.mul_div_le (gt (aGot ρ t c p S) t) (rH ρ)
  have hmlt := Nat.mod_lt (gt (aGot ρ t c p S) t) (show rH ρ > 0 by omega)
  have s1 := F1.1
  have s2 : M2.2 = M.2 := F2.1.trans s1
  have s3 : M3.2 = M.2 := F3.1.trans s2
  have R3 := C3.2.1
  rw [hbk]
  unfold aGet aBeat
  by_cases hm : gt (aGot ρ t c p S) t % rH ρ = 0
  · rw [if_pos hm]
    obtain ⟨M4, e4, F4, C4, V4⟩ := cBeat C3 V3 ht
    rw [aTick_note] at C4 V4
    refine ⟨M4, ?_, Fr_tr (Fr_w F1 (by omega) (by omega)) (Fr_tr (Fr_w F2 (by omega) (by omega)) (Fr_tr (Fr_w F3 (by omega) (by omega)) (Fr_w F4 (by omega) (by omega)))), C4, V4, hb40, hpP⟩
    simp (disch := omega) only [fH_takeBlock, BH_takeBlock_32, BH_takeBlock_128, not_false_eq_true, gd1, bs1, ↓reduceIte, d_nz, d_nn, or_true, true_or, or_false, false_or, decide_true, Sum.elim_inl, Sum.elim_inr, ↓l_m1, l_0, l_1, l_2, l_3, l_4, l_5, l_6, l_7, l_8, l_9, l_10, l_16, l_17, l_18, l_20, l_23, l_24, l_30, l_31, l_32, l_39, l_40, l_41, l_48, l_57, l_58, l_59, l_60, l_63, l_90, l_97, l_98, l_99, l_100, l_102, l_103, l_104, l_107, l_109, l_112, l_115, l_116, l_117, l_120, l_122, l_126, l_166, l_180, l_240, l_255, l_640, l_999, l_2656, l_3064, l_3704, l_3708, l_3712, l_3713, l_3893, l_155720, l_1000000, n_ltT, n_ltF, n_leT, n_leF, n_eqT, n_eqF, n_eqm, n_eqm', n_mltn, n_mlen, n_nltm, n_nlem, n_mltm, n_mlem, n_add, n_mul, n_sub, n_subm, n_cl, n_ofNat, n_div, n_mod, obM_si, rdI_si, wrI_si, lnI_si, grM_si', tgM_si', obM_sa, rdI_sa, wrI_sa, lnI_sa, grM_sa', tgM_sa', obM_2 s1, rdI_2 s1, wrI_2 s1, lnI_2 s1, grM_2 s1, tgM_2 s1, obM_2 s2, rdI_2 s2, wrI_2 s2, lnI_2 s2, grM_2 s2, tgM_2 s2, obM_2 s3, rdI_2 s3, wrI_2 s3, lnI_2 s3, grM_2 s3, tgM_2 s3, hs_ob H, hs_g0 H, hs_g1 H, hs_g2 H, hs_g3 H, hs_g4 H, hs_g5 H, hs_g6 H, hs_g7 H, hs_g8 H, hs_t1 H, hs_r1 H, hs_w1 H, hs_l1 H, hs_t2 H, hs_r2 H, hs_w2 H, hs_l2 H, hs_t3 H, hs_r3 H, hs_w3 H, hs_l3 H, hs_t14 H, hs_r14 H, hs_w14 H, hs_l14 H, hs_t15 H, hs_r15 H, hs_w15 H, hs_l15 H, hs_ob4 H, hs_g4_0 H, hs_t5 H, hs_r5 H, hs_w5 H, hs_l5 H, hs_g4_1 H, hs_t6 H, hs_r6 H, hs_w6 H, hs_l6 H, hs_g4_2 H, hs_t7 H, hs_r7 H, hs_w7 H, hs_l7 H, hs_g4_3 H, hs_t8 H, hs_r8 H, hs_w8 H, hs_l8 H, hs_ob9 H, hs_g9_0 H, hs_t10 H, hs_r10 H, hs_w10 H, hs_l10 H, hs_g9_1 H, hs_t11 H, hs_r11 H, hs_w11 H, hs_l11 H, hs_g9_2 H, hs_t12 H, hs_r12 H, hs_w12 H, hs_l12 H, hs_g9_3 H, hs_t13 H, hs_r13 H, hs_w13 H, hs_l13 H, hs_ob16 H, hs_g16 H, hs_t17 H, hs_r17 H, hs_w17 H, hs_l17 H, hs_ob5 H, hs_g50 H, hs_g51 H, hs_tu6 H, hs_ru6 H, hs_wu6 H, hs_lu6 H, hs_tu7 H, hs_ru7 H, hs_wu7 H, hs_lu7 H, rc_T R3, rc_P R3, rc_U R3, rc_B R3, rc_H R3, rc_K R3, mul3, mul6, mul16, mul40, mul100, Nat.add_zero, hkf, hL, hpf, hhow, e1, e2, e3, hg, n_mod hmod, hm, e4]
  · rw [if_neg hm]
    refine ⟨M3, ?_, Fr_tr (Fr_w F1 (by omega) (by omega)) (Fr_tr (Fr_w F2 (by omega) (by omega)) (Fr_w F3 (by omega) (by omega))), C3, V3, hb40, hpP⟩
    simp (disch := omega) only [fH_takeBlock, BH_takeBlock_32, BH_takeBlock_128, not_false_eq_true, gd1, bs1, ↓reduceIte, d_nz, d_nn, or_true, true_or, or_false, false_or, decide_true, Sum.elim_inl, Sum.elim_inr, ↓l_m1, l_0, l_1, l_2, l_3, l_4, l_5, l_6, l_7, l_8, l_9, l_10, l_16, l_17, l_18, l_20, l_23, l_24, l_30, l_31, l_32, l_39, l_40, l_41, l_48, l_57, l_58, l_59, l_60, l_63, l_90, l_97, l_98, l_99, l_100, l_102, l_103, l_104, l_107, l_109, l_112, l_115, l_116, l_117, l_120, l_122, l_126, l_166, l_180, l_240, l_255, l_640, l_999, l_2656, l_3064, l_3704, l_3708, l_3712, l_3713, l_3893, l_155720, l_1000000, n_ltT, n_ltF, n_leT, n_leF, n_eqT, n_eqF, n_eqm, n_eqm', n_mltn, n_mlen, n_nltm, n_nlem, n_mltm, n_mlem, n_add, n_mul, n_sub, n_subm, n_cl, n_ofNat, n_div, n_mod, obM_si, rdI_si, wrI_si, lnI_si, grM_si', tgM_si', obM_sa, rdI_sa, wrI_sa, lnI_sa, grM_sa', tgM_sa', obM_2 s1, rdI_2 s1, wrI_2 s1, lnI_2 s1, grM_2 s1, tgM_2 s1, obM_2 s2, rdI_2 s2, wrI_2 s2, lnI_2 s2, grM_2 s2, tgM_2 s2, obM_2 s3, rdI_2 s3, wrI_2 s3, lnI_2 s3, grM_2 s3, tgM_2 s3, hs_ob H, hs_g0 H, hs_g1 H, hs_g2 H, hs_g3 H, hs_g4 H, hs_g5 H, hs_g6 H, hs_g7 H, hs_g8 H, hs_t1 H, hs_r1 H, hs_w1 H, hs_l1 H, hs_t2 H, hs_r2 H, hs_w2 H, hs_l2 H, hs_t3 H, hs_r3 H, hs_w3 H, hs_l3 H, hs_t14 H, hs_r14 H, hs_w14 H, hs_l14 H, hs_t15 H, hs_r15 H, hs_w15 H, hs_l15 H, hs_ob4 H, hs_g4_0 H, hs_t5 H, hs_r5 H, hs_w5 H, hs_l5 H, hs_g4_1 H, hs_t6 H, hs_r6 H, hs_w6 H, hs_l6 H, hs_g4_2 H, hs_t7 H, hs_r7 H, hs_w7 H, hs_l7 H, hs_g4_3 H, hs_t8 H, hs_r8 H, hs_w8 H, hs_l8 H, hs_ob9 H, hs_g9_0 H, hs_t10 H, hs_r10 H, hs_w10 H, hs_l10 H, hs_g9_1 H, hs_t11 H, hs_r11 H, hs_w11 H, hs_l11 H, hs_g9_2 H, hs_t12 H, hs_r12 H, hs_w12 H, hs_l12 H, hs_g9_3 H, hs_t13 H, hs_r13 H, hs_w13 H, hs_l13 H, hs_ob16 H, hs_g16 H, hs_t17 H, hs_r17 H, hs_w17 H, hs_l17 H, hs_ob5 H, hs_g50 H, hs_g51 H, hs_tu6 H, hs_ru6 H, hs_wu6 H, hs_lu6 H, hs_tu7 H, hs_ru7 H, hs_wu7 H, hs_lu7 H, rc_T R3, rc_P R3, rc_U R3, rc_B R3, rc_H R3, rc_K R3, mul3, mul6, mul16, mul40, mul100, Nat.add_zero, hkf, hL, hpf, hhow, e1, e2, e3, hg, n_mod hmod]
end CT
