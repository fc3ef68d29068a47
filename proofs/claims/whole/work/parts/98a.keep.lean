/-! WHAT IS HELD STAYS HELD -/
section KH
variable {ρ : Rul} {β : Nat} {S S' : HSt} {t p c b : Nat}
def KH (ρ : Rul) (S S' : HSt) : Prop := ∀ x, x < 16 → ∀ b, b < cut ρ S x → hd S x b = 1 → b < cut ρ S' x ∧ hd S' x b = 1
theorem KH_refl : KH ρ S S := fun _ _ _ h1 h2 => ⟨h1, h2⟩
theorem KH_tr {S2 : HSt} (h : KH ρ S S') (g : KH ρ S' S2) : KH ρ S S2 := fun x hx b h1 h2 => g x hx b (h x hx b h1 h2).1 (h x hx b h1 h2).2
theorem KH_same (h0 : hd S' = hd S) (h2 : cl S' = cl S) (h1 : ∀ x, x < 16 → (kd S' x = 0 ↔ kd S x = 0)) : KH ρ S S' := fun x hx b hb hh => by
  rw [h0, cut_cg (h1 x hx) (by rw [h2])]
  exact ⟨hb, hh⟩
theorem KH_pop (V : Inv ρ β S) (hq : 6 * t + c < 24) : KH ρ S (oPop (6 * t + c) (gPre t c S) S) := by
  obtain ⟨h1, h2, h3⟩ := oPop_same (6 * t + c) (gPre t c S) S (fun x hx => by
    have := ((V.2.2.1 (6 * t + c) hq).2 x).1 (takeWhile_mem hx)
    omega)
  exact KH_same h1 h2 (fun x _ => h3 x)
theorem KH_enq (hk : kd S p ≠ 0) : KH ρ S (oEnq p S) := KH_same rfl rfl (fun x _ => by
  show ud (kd S) p 1 x = 0 ↔ _
  by_cases e : x = p
  · rw [ud_e e, e]
    exact ⟨fun h => absurd h (by omega), fun h => absurd h hk⟩
  · rw [ud_n _ _ e])
theorem KH_adopt (hk : kd S p ≠ 0) : KH ρ S (oAdopt t p S) := KH_same rfl rfl (fun x _ => by
  show ud (kd S) p 1 x = 0 ↔ _
  by_cases e : x = p
  · rw [ud_e e, e]
    exact ⟨fun h => absurd h (by omega), fun h => absurd h hk⟩
  · rw [ud_n _ _ e])
theorem KH_fill (hk : kd S p = 0) : KH ρ S (oFill ρ t c p S) := fun x hx b hb hh => by
  by_cases e : x = p
  · unfold cut at hb
    rw [e, if_pos hk] at hb
    omega
  · have h1 : hd (oFill ρ t c p S) x = hd S x := ud_n _ _ e
    have h2 : cut ρ (oFill ρ t c p S) x = cut ρ S x := by
      refine cut_cg ?_ (ud_n _ _ e)
      show ud (kd S) p 1 x = 0 ↔ _
      rw [ud_n _ _ e]
    rw [h1, h2]
    exact ⟨hb, hh⟩
theorem KH_coll : KH ρ S (oColl p S) := by
  unfold oColl
  split
  · exact KH_refl
  · split
    · exact KH_same rfl rfl (fun _ _ => Iff.rfl)
    · exact KH_same rfl rfl (fun _ _ => Iff.rfl)
theorem sm_el {f : Nat → Nat} : ∀ {n b : Nat}, b < n → f b ≤ sm f n
  | n + 1, b, h => by
    rw [sm_s]
    by_cases e : b = n
    · rw [e]; omega
    · have := sm_el (f := f) (n := n) (b := b) (by omega)
      omega
theorem KH_empty (hR : RuOK ρ) (V : Inv ρ β S) (hp : p < 16) (hu : usd ρ S p = 0) : KH ρ S (oEmpty p S) := fun x hx b hb hh => by
  by_cases e : x = p
  · have h1 := held_cnt hR V hp
    rw [e] at hb hh
    have h2 := sm_el (f := hd S p) hb
    have h3 : hdn ρ S p = sm (hd S p) (cut ρ S p) := rfl
    omega
  · have h1 : hd (oEmpty p S) = hd S := (leave_kd S).1
    have h3 : cl (oEmpty p S) = cl S := (leave_kd S).2
    have h2 : cut ρ (oEmpty p S) x = cut ρ S x := by
      refine cut_cg ?_ (by rw [h3])
      show ud (kd S) p 0 x = 0 ↔ _
      rw [ud_n _ _ e]
    rw [h1, h2]
    exact ⟨hb, hh⟩
theorem KH_aband (hk : kd S p ≠ 0) : KH ρ S (oAband p S) := KH_same (leave_kd S).1 (leave_kd S).2 (fun x _ => by
  show ud (kd S) p 3 x = 0 ↔ _
  by_cases e : x = p
  · rw [ud_e e, e]
    exact ⟨fun h => absurd h (by omega), fun h => absurd h hk⟩
  · rw [ud_n _ _ e])
theorem KH_home : KH ρ S (oHome t p S) := KH_same rfl rfl (fun _ _ => Iff.rfl)
theorem KH_aHome (hR : RuOK ρ) (V : Inv ρ β S) (ht : t < 4) (hp : p < 16) : KH ρ S (aHome ρ t p S) := by
  unfold aHome
  split
  · exact KH_refl
  · split
    · next h => exact KH_tr KH_home (KH_empty hR (inv_home ht hp V) hp h.2)
    · exact KH_home
theorem KH_aQ1 : KH ρ S (aQ1 t p S) := by
  unfold aQ1
  split
  · next h => exact KH_enq (by omega)
  · exact KH_refl
theorem KH_aQ2 (hR : RuOK ρ) (V : Inv ρ β S) (hp : p < 16) : KH ρ S (aQ2 ρ t p S) := by
  unfold aQ2
  split
  · next h => exact KH_empty hR V hp h.2.2.1
  · exact KH_refl
theorem KH_aT1 (hR : RuOK ρ) (V : Inv ρ β S) (hp : p < 16) : KH ρ S (aT1 ρ t p S) := by
  unfold aT1
  split
  · next h =>
    split
    · next h2 => exact KH_empty hR V hp h2
    · exact KH_aband (by omega)
  · exact KH_refl
theorem KH_fr {g : Nat → HSt → HSt} {n : Nat} (hg : ∀ i S, i < n → Inv ρ β S → Inv ρ β (g i S) ∧ KH ρ S (g i S)) (V : Inv ρ β S) : ∀ k, k ≤ n → KH ρ S (fr g k S)
  | 0, _ => KH_refl
  | k + 1, h => KH_tr (KH_fr hg V k (by omega)) (hg k _ (by omega) (inv_fr (n := n) (fun i S hi V => (hg i S hi V).1) V k (by omega))).2
theorem KH_homes (hR : RuOK ρ) (V : Inv ρ β S) (ht : t < rT ρ) : KH ρ S (aHomes ρ t S) := by
  have hb := ru_b hR
  exact KH_fr (n := rP ρ) (fun i S hi V => ⟨inv_aHome (by omega) (by omega) V, KH_aHome hR V (by omega) (by omega)⟩) V _ (Nat.le_refl _)
theorem KH_tick (hR : RuOK ρ) (V : Inv ρ β S) (ht : t < rT ρ) : KH ρ S (aTick ρ t S) := by
  have hb := ru_b hR
  have V1 := inv_homes hR ht V
  have V2 : Inv ρ β (fr (aQ1 t) (rP ρ) (aHomes ρ t S)) := inv_fr (n := rP ρ) (fun i S hi V => inv_aQ1 (by omega) V) V1 _ (Nat.le_refl _)
  have h2 := KH_fr (ρ := ρ) (n := rP ρ) (g := aQ1 t) (fun i S hi V => ⟨inv_aQ1 (by omega) V, KH_aQ1⟩) V1 _ (Nat.le_refl _)
  have h3 := KH_fr (ρ := ρ) (n := rP ρ) (g := aQ2 ρ t) (fun i S hi V => ⟨inv_aQ2 (by omega) V, KH_aQ2 hR V (by omega)⟩) V2 _ (Nat.le_refl _)
  exact KH_tr (KH_homes hR V ht) (KH_tr h2 h3)
theorem KH_turn (hR : RuOK ρ) (V : Inv ρ β S) (ht : t < rT ρ) : KH ρ S (aTurn ρ t S) := by
  have hb := ru_b hR
  unfold aTurn
  split
  · have V1 := inv_homes hR ht V
    have h2 := KH_fr (ρ := ρ) (n := rP ρ) (g := aT1 ρ t) (fun i S hi V => ⟨inv_aT1 (by omega) V, KH_aT1 hR V (by omega)⟩) V1 _ (Nat.le_refl _)
    exact KH_tr (KH_tr (KH_homes hR V ht) h2) (KH_same rfl rfl (fun _ _ => Iff.rfl))
  · exact KH_same rfl rfl (fun _ _ => Iff.rfl)
/-- a get keeps what is held, and holds one that was not -/
theorem KH_get (hR : RuOK ρ) (V : Inv ρ β S) (ht : t < rT ρ) (hc : c < rK ρ) (e : pgF ρ t c S = some p) : KH ρ S (aGet ρ t c p S) ∧ (aBlk ρ t c p S < cut ρ (aGet ρ t c p S) p ∧ hd (aGet ρ t c p S) p (aBlk ρ t c p S) = 1) ∧ ¬ (aBlk ρ t c p S < cut ρ S p ∧ hd S p (aBlk ρ t c p S) = 1) := by
  have hb := ru_b hR
  have pc := pgF_cases hR V ht hc e
  have hp16 : p < 16 := by omega
  obtain ⟨V1, V2, hl2, hk2⟩ := aG2_ok hR V ht hc e
  obtain ⟨x, r, eb⟩ := coll_ne hl2
  have VC := inv_coll hp16 V2 (show kd (aG2 ρ t c p S) p ≠ 2 by omega)
  obtain ⟨i1, i2⟩ := in_cut VC.2.1 hp16 (Or.inl rfl) (b := x) (by rw [eb]; exact List.mem_cons_self)
  have ex : aBlk ρ t c p S = x := by
    unfold aBlk
    rw [eb]
    rfl
  rw [ex]
  have h1 : KH ρ S (aG2 ρ t c p S) := by
    have hpop := KH_pop (t := t) (c := c) V (by omega)
    have hk0 := (oPop_same (6 * t + c) (gPre t c S) S (fun x hx => by
      have := ((V.2.2.1 (6 * t + c) (by omega)).2 x).1 (takeWhile_mem hx)
      omega)).2.2 p
    unfold aG2
    split
    · next h => exact KH_tr hpop (KH_fill (hk0.2 h))
    · next h =>
      split
      · exact KH_tr hpop (KH_adopt (fun e => h (hk0.1 e)))
      · exact hpop
  have h2 : KH ρ S (oColl p (aG2 ρ t c p S)) := KH_tr h1 KH_coll
  have eh : ∀ y, hd (aGot ρ t c p S) y = ud (hd (oColl p (aG2 ρ t c p S))) p (ud (hd (oColl p (aG2 ρ t c p S)) p) x 1) y := fun y => by
    show ud (hd (oColl p (aG2 ρ t c p S))) p (ud (hd (oColl p (aG2 ρ t c p S)) p) ((bl (oColl p (aG2 ρ t c p S)) (3 * p)).headD 0) 1) y = _
    rw [eb]
    rfl
  have h3 : KH ρ (oColl p (aG2 ρ t c p S)) (aGot ρ t c p S) := fun y hy b hb hh => by
    refine ⟨hb, ?_⟩
    rw [eh]
    by_cases ey : y = p
    · rw [ud_e ey]
      by_cases eb' : b = x
      · rw [ud_e eb']
      · rw [ud_n _ _ eb']
        rw [ey] at hh
        exact hh
    · rw [ud_n _ _ ey]
      exact hh
  have VG := inv_got hR V ht hc e
  have h6 : KH ρ (aGot ρ t c p S) (aGet ρ t c p S) := by
    unfold aGet aBeat
    split
    · exact KH_tick hR VG ht
    · exact KH_refl
  refine ⟨KH_tr h2 (KH_tr h3 h6), h6 p hp16 x i1 (by rw [eh, ud_s, ud_s]), fun h => ?_⟩
  have := (h2 p hp16 x h.1 h.2).2
  omega
theorem KH_free (hR : RuOK ρ) (ht : t < rT ρ) (hp : p < 16) (hB : BoxB ρ S) (hb : b < cut ρ S p) (hh : hd S p b = 1) (V : Inv ρ β S) : ∀ x, x < 16 → ∀ b', ¬ (x = p ∧ b' = b) → b' < cut ρ S x → hd S x b' = 1 → b' < cut ρ (aFree ρ t p b S) x ∧ hd (aFree ρ t p b S) x b' = 1 := by
  have hRb := ru_b hR
  have key : KH ρ (oHd p b 0 S) (aFree ρ t p b S) := by
    unfold aFree
    by_cases h1 : (kd S p = 1 ∨ kd S p = 2) ∧ ow S p = t
    · rw [if_pos h1]
      have V1 := inv_loc2 hp hb hh V
      have k1 : KH ρ (oHd p b 0 S) (aLoc ρ p b S) := by
        unfold aLoc
        have k0 : KH ρ (oHd p b 0 S) (oPush (3 * p + 1) b (oHd p b 0 S)) := KH_same rfl rfl (fun _ _ => Iff.rfl)
        by_cases hk : kd S p = 2
        · rw [if_pos hk]
          exact KH_tr k0 (KH_enq (by show kd S p ≠ 0; omega))
        · rw [if_neg hk]; exact k0
      by_cases h2 : usd ρ (aLoc ρ p b S) p = 0 ∧ 1 < (qu (aLoc ρ p b S) (6 * t + cl S p)).length
      · rw [if_pos h2]; exact KH_tr k1 (KH_empty hR V1 hp h2.1)
      · rw [if_neg h2]; exact k1
    · rw [if_neg h1]
      have h9 := hB t p (by omega) hp
      have V1 : Inv ρ β (aBox t p b S) := inv_box ht (by omega) hp (by omega) hb hh V
      have k1 : KH ρ (oHd p b 0 S) (aBox t p b S) := KH_same rfl rfl (fun _ _ => Iff.rfl)
      by_cases h2 : (bl S (48 + 16 * t + p)).length + 1 < rB ρ
      · rw [if_pos h2]; exact k1
      · rw [if_neg h2]; exact KH_tr k1 (KH_aHome hR V1 (by omega) hp)
  intro x hx b' hn h1 h2
  refine key x hx b' h1 ?_
  show ud (hd S) p (ud (hd S p) b 0) x b' = 1
  by_cases ex : x = p
  · rw [ud_e ex, ud_n _ _ (fun e => hn ⟨ex, e⟩), ← ex]
    exact h2
  · rw [ud_n _ _ ex]; exact h2
end KH
