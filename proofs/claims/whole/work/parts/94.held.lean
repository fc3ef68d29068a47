/-! EVERY GET HOLDS ONE MORE -/
section HL
variable {ρ : Rul} {β : Nat} {S S' : HSt} {p t b l q c w : Nat}
theorem sm_mono {f g : Nat → Nat} : ∀ {n : Nat}, (∀ i, i < n → f i ≤ g i) → sm f n ≤ sm g n
  | 0, _ => Nat.le_refl _
  | n + 1, h => by
    have h1 := sm_mono (n := n) (fun i hi => h i (by omega))
    have h2 := h n (by omega)
    rw [sm_s, sm_s]
    omega
theorem sm_lt {f g : Nat → Nat} {k : Nat} : ∀ {n : Nat}, (∀ i, i < n → f i ≤ g i) → k < n → f k < g k → sm f n < sm g n
  | 0, _, h, _ => absurd h (Nat.not_lt_zero _)
  | n + 1, h, hk, e => by
    have h2 := h n (by omega)
    rw [sm_s, sm_s]
    by_cases e1 : k = n
    · have h1 := sm_mono (n := n) (fun i hi => h i (by omega))
      rw [e1] at e
      omega
    · have h1 := sm_lt (n := n) (fun i hi => h i (by omega)) (by omega) e
      omega
/-- no page holds less -/
def HL (ρ : Rul) (S S' : HSt) : Prop := ∀ x, x < 16 → hdn ρ S x ≤ hdn ρ S' x
theorem HL_refl : HL ρ S S := fun _ _ => Nat.le_refl _
theorem HL_tr {S2 : HSt} (h : HL ρ S S') (g : HL ρ S' S2) : HL ρ S S2 := fun x hx => Nat.le_trans (h x hx) (g x hx)
theorem cut_cg (h1 : kd S' p = 0 ↔ kd S p = 0) (h2 : cl S' p = cl S p) : cut ρ S' p = cut ρ S p := by
  unfold cut
  rw [h2]
  by_cases h : kd S p = 0
  · rw [if_pos h, if_pos (h1.2 h)]
  · rw [if_neg h, if_neg (fun e => h (h1.1 e))]
theorem HL_same (h0 : hd S' = hd S) (h2 : cl S' = cl S) (h1 : ∀ x, x < 16 → (kd S' x = 0 ↔ kd S x = 0)) : HL ρ S S' := fun x hx => by
  unfold hdn
  rw [h0, cut_cg (h1 x hx) (by rw [h2])]
  exact Nat.le_refl _
theorem oPop_same (q : Nat) : ∀ (xs : List Nat) (S : HSt), (∀ x ∈ xs, kd S x ≠ 0) → hd (oPop q xs S) = hd S ∧ cl (oPop q xs S) = cl S ∧ ∀ x, (kd (oPop q xs S) x = 0 ↔ kd S x = 0)
  | [], S, _ => ⟨rfl, rfl, fun _ => Iff.rfl⟩
  | y :: xs, S, h => by
    have hk : ∀ x, kd (oFull y q S) x = 0 ↔ kd S x = 0 := fun x => by
      show ud (kd S) y 2 x = 0 ↔ _
      by_cases e : x = y
      · rw [ud_e e, e]
        have := h y List.mem_cons_self
        exact ⟨fun h => absurd h (by omega), fun h => absurd h this⟩
      · rw [ud_n _ _ e]
    have ih := oPop_same q xs (oFull y q S) (fun x hx e => h x (List.mem_cons_of_mem _ hx) ((hk x).1 e))
    exact ⟨ih.1, ih.2.1, fun x => (ih.2.2 x).trans (hk x)⟩
theorem takeWhile_mem {α : Type} {P : α → Bool} {x : α} : ∀ {xs : List α}, x ∈ xs.takeWhile P → x ∈ xs
  | [], h => h
  | y :: ys, h => by
    rw [List.takeWhile_cons] at h
    split at h
    · rcases List.mem_cons.1 h with e | e
      · exact List.mem_cons.2 (Or.inl e)
      · exact List.mem_cons_of_mem _ (takeWhile_mem e)
    · cases h
theorem HL_pop (V : Inv ρ β S) (hq : 6 * t + c < 24) : HL ρ S (oPop (6 * t + c) (gPre t c S) S) := by
  obtain ⟨h1, h2, h3⟩ := oPop_same (6 * t + c) (gPre t c S) S (fun x hx => by
    have := ((V.2.2.1 (6 * t + c) hq).2 x).1 (takeWhile_mem hx)
    omega)
  exact HL_same h1 h2 (fun x _ => h3 x)
theorem HL_adopt (hk : kd S p ≠ 0) : HL ρ S (oAdopt t p S) := HL_same rfl rfl (fun x _ => by
  show ud (kd S) p 1 x = 0 ↔ _
  by_cases e : x = p
  · rw [ud_e e, e]
    exact ⟨fun h => absurd h (by omega), fun h => absurd h hk⟩
  · rw [ud_n _ _ e])
theorem HL_enq (hk : kd S p ≠ 0) : HL ρ S (oEnq p S) := HL_same rfl rfl (fun x _ => by
  show ud (kd S) p 1 x = 0 ↔ _
  by_cases e : x = p
  · rw [ud_e e, e]
    exact ⟨fun h => absurd h (by omega), fun h => absurd h hk⟩
  · rw [ud_n _ _ e])
theorem HL_fill (hk : kd S p = 0) : HL ρ S (oFill ρ t c p S) := fun x hx => by
  by_cases e : x = p
  · have : hdn ρ S x = 0 := by
      unfold hdn cut
      rw [e, if_pos hk]
      rfl
    omega
  · have h1 : hd (oFill ρ t c p S) x = hd S x := ud_n _ _ e
    have h2 : cut ρ (oFill ρ t c p S) x = cut ρ S x := by
      refine cut_cg ?_ (ud_n _ _ e)
      show ud (kd S) p 1 x = 0 ↔ _
      rw [ud_n _ _ e]
    unfold hdn
    rw [h1, h2]
    exact Nat.le_refl _
theorem HL_coll : HL ρ S (oColl p S) := by
  unfold oColl
  split
  · exact HL_refl
  · split
    · exact HL_same rfl rfl (fun _ _ => Iff.rfl)
    · exact HL_same rfl rfl (fun _ _ => Iff.rfl)
theorem leave_kd (S : HSt) : hd (oLeave p S) = hd S ∧ cl (oLeave p S) = cl S := by
  unfold oLeave
  split <;> exact ⟨rfl, rfl⟩
theorem HL_empty (hR : RuOK ρ) (V : Inv ρ β S) (hp : p < 16) (hu : usd ρ S p = 0) : HL ρ S (oEmpty p S) := fun x hx => by
  by_cases e : x = p
  · have := held_cnt hR V hp
    rw [e]
    omega
  · have h1 : hd (oEmpty p S) = hd S := (leave_kd S).1
    have h3 : cl (oEmpty p S) = cl S := (leave_kd S).2
    have h2 : cut ρ (oEmpty p S) x = cut ρ S x := by
      refine cut_cg ?_ (by rw [h3])
      show ud (kd S) p 0 x = 0 ↔ _
      rw [ud_n _ _ e]
    unfold hdn
    rw [h1, h2]
    exact Nat.le_refl _
theorem HL_home : HL ρ S (oHome t p S) := HL_same rfl rfl (fun _ _ => Iff.rfl)
theorem HL_aHome (hR : RuOK ρ) (V : Inv ρ β S) (ht : t < 4) (hp : p < 16) : HL ρ S (aHome ρ t p S) := by
  unfold aHome
  split
  · exact HL_refl
  · split
    · next h => exact HL_tr HL_home (HL_empty hR (inv_home ht hp V) hp h.2)
    · exact HL_home
theorem HL_aQ1 : HL ρ S (aQ1 t p S) := by
  unfold aQ1
  split
  · next h => exact HL_enq (by omega)
  · exact HL_refl
theorem HL_aQ2 (hR : RuOK ρ) (V : Inv ρ β S) (hp : p < 16) : HL ρ S (aQ2 ρ t p S) := by
  unfold aQ2
  split
  · next h => exact HL_empty hR V hp h.2.2.1
  · exact HL_refl
theorem HL_fr {g : Nat → HSt → HSt} {n : Nat} (hg : ∀ i S, i < n → Inv ρ β S → Inv ρ β (g i S) ∧ HL ρ S (g i S)) (V : Inv ρ β S) : ∀ k, k ≤ n → HL ρ S (fr g k S)
  | 0, _ => HL_refl
  | k + 1, h => HL_tr (HL_fr hg V k (by omega)) (hg k _ (by omega) (inv_fr (n := n) (fun i S hi V => (hg i S hi V).1) V k (by omega))).2
theorem HL_tick (hR : RuOK ρ) (V : Inv ρ β S) (ht : t < rT ρ) : HL ρ S (aTick ρ t S) := by
  have hb := ru_b hR
  have V1 := inv_homes hR ht V
  have V2 : Inv ρ β (fr (aQ1 t) (rP ρ) (aHomes ρ t S)) := inv_fr (n := rP ρ) (fun i S hi V => inv_aQ1 (by omega) V) V1 _ (Nat.le_refl _)
  have h1 : HL ρ S (aHomes ρ t S) := HL_fr (n := rP ρ) (fun i S hi V => ⟨inv_aHome (by omega) (by omega) V, HL_aHome hR V (by omega) (by omega)⟩) V _ (Nat.le_refl _)
  have h2 := HL_fr (ρ := ρ) (n := rP ρ) (g := aQ1 t) (fun i S hi V => ⟨inv_aQ1 (by omega) V, HL_aQ1⟩) V1 _ (Nat.le_refl _)
  have h3 := HL_fr (ρ := ρ) (n := rP ρ) (g := aQ2 ρ t) (fun i S hi V => ⟨inv_aQ2 (by omega) V, HL_aQ2 hR V (by omega)⟩) V2 _ (Nat.le_refl _)
  exact HL_tr h1 (HL_tr h2 h3)
theorem sm_ud {f : Nat → Nat} (hf : f b = 0) : ∀ n, sm (ud f b 1) n = sm f n + if b < n then 1 else 0
  | 0 => rfl
  | n + 1 => by
    rw [sm_s, sm_s, sm_ud hf n]
    by_cases h : b < n
    · rw [if_pos h, if_pos (by omega), ud_n _ _ (by omega)]; omega
    · rw [if_neg h]
      by_cases e : n = b
      · rw [if_pos (by omega), ud_e e, e, hf]
      · rw [if_neg (by omega), ud_n _ _ e]; omega
/-- all that is held -/
def HT (ρ : Rul) (S : HSt) : Nat := sm (hdn ρ S) (rP ρ)
theorem HT_get (hR : RuOK ρ) (V : Inv ρ β S) (ht : t < rT ρ) (hc : c < rK ρ) (e : pgF ρ t c S = some p) : HT ρ S < HT ρ (aGet ρ t c p S) := by
  have hb := ru_b hR
  have pc := pgF_cases hR V ht hc e
  have hp16 : p < 16 := by omega
  obtain ⟨V1, V2, hl2, hk2⟩ := aG2_ok hR V ht hc e
  obtain ⟨x, r, eb⟩ := coll_ne hl2
  have VC := inv_coll hp16 V2 (show kd (aG2 ρ t c p S) p ≠ 2 by omega)
  obtain ⟨i1, i2⟩ := in_cut VC.2.1 hp16 (Or.inl rfl) (b := x) (by rw [eb]; exact List.mem_cons_self)
  have h1 : HL ρ S (aG2 ρ t c p S) := by
    have hpop := HL_pop (t := t) (c := c) V (by omega)
    have hk0 := (oPop_same (6 * t + c) (gPre t c S) S (fun x hx => by
      have := ((V.2.2.1 (6 * t + c) (by omega)).2 x).1 (takeWhile_mem hx)
      omega)).2.2 p
    unfold aG2
    split
    · next h => exact HL_tr hpop (HL_fill (hk0.2 h))
    · next h =>
      split
      · exact HL_tr hpop (HL_adopt (fun e => h (hk0.1 e)))
      · exact hpop
  have h2 : HL ρ S (oColl p (aG2 ρ t c p S)) := HL_tr h1 HL_coll
  have h3 : ∀ y, y < 16 → hdn ρ (aGot ρ t c p S) y = hdn ρ (oColl p (aG2 ρ t c p S)) y + if y = p then 1 else 0 := fun y hy => by
    have ec : cut ρ (aGot ρ t c p S) y = cut ρ (oColl p (aG2 ρ t c p S)) y := rfl
    have eh : hd (aGot ρ t c p S) y = ud (hd (oColl p (aG2 ρ t c p S))) p (ud (hd (oColl p (aG2 ρ t c p S)) p) x 1) y := by
      show ud (hd (oColl p (aG2 ρ t c p S))) p (ud (hd (oColl p (aG2 ρ t c p S)) p) ((bl (oColl p (aG2 ρ t c p S)) (3 * p)).headD 0) 1) y = _
      rw [eb]
      rfl
    unfold hdn
    rw [ec, eh]
    by_cases ey : y = p
    · rw [if_pos ey, ud_e ey, sm_ud i2, ey, if_pos i1]
    · rw [if_neg ey, ud_n _ _ ey]
      rfl
  have h4 : HL ρ S (aGot ρ t c p S) := fun y hy => by
    have := h2 y hy
    rw [h3 y hy]
    omega
  have h5 : hdn ρ S p < hdn ρ (aGot ρ t c p S) p := by
    have := h2 p hp16
    rw [h3 p hp16, if_pos rfl]
    omega
  have VG := inv_got hR V ht hc e
  have h6 : HL ρ (aGot ρ t c p S) (aGet ρ t c p S) := by
    unfold aGet aBeat
    split
    · exact HL_tick hR VG ht
    · exact HL_refl
  refine sm_lt (k := p) (fun i hi => Nat.le_trans (h4 i (by omega)) (h6 i (by omega))) pc.1 ?_
  have := h6 p hp16
  omega
theorem aGet_lv (ρ : Rul) (t c p : Nat) (S : HSt) : lv (aGet ρ t c p S) = lv S := by
  have hT : ∀ S, lv (aTick ρ t S) = lv S := fun S => by
    have e := aTick_wlv ρ t S (lv S)
    have e2 : wlv S (lv S) = S := rfl
    rw [e2] at e
    exact (congrArg lv e).trans rfl
  have hP : ∀ (q : Nat) (xs : List Nat) (S : HSt), lv (oPop q xs S) = lv S := fun q xs => by
    induction xs with
    | nil => intro S; rfl
    | cons x xs ih => intro S; exact (ih _).trans rfl
  have h2 : lv (aG2 ρ t c p S) = lv S := by
    unfold aG2
    split
    · exact hP _ _ S
    · split
      · exact hP _ _ S
      · exact hP _ _ S
  have h3 : lv (oColl p (aG2 ρ t c p S)) = lv S := by
    unfold oColl
    split
    · exact h2
    · split <;> exact h2
  have h4 : lv (aGot ρ t c p S) = lv S := h3
  unfold aGet aBeat
  split
  · rw [hT]; exact h4
  · exact h4
end HL
