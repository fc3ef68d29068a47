section AC
variable {ρ : Rul} {β : Nat} {S : HSt} {p t b : Nat}
/-- ct and cut look at lists, kind and class alone -/
theorem ct_bl {S' : HSt} (e : bl S' = bl S) (p b : Nat) : ct S' p b = ct S p b := by unfold ct; rw [e]
theorem cut_eq {S' : HSt} (h : kd S' p = 0 ↔ kd S p = 0) (e : kd S p ≠ 0 → cl S' p = cl S p) : cut ρ S' p = cut ρ S p := by
  unfold cut
  by_cases h0 : kd S p = 0
  · rw [if_pos h0, if_pos (h.mpr h0)]
  · rw [if_neg h0, if_neg (fun q => h0 (h.mp q)), e h0]
theorem q_lt (hT : rT ρ ≤ 4) (hK : rK ρ ≤ 6) (h1 : I1 ρ S) (hp : p < 16) (hk : kd S p = 1 ∨ kd S p = 2) : ow S p < rT ρ ∧ cl S p < rK ρ ∧ 6 * ow S p + cl S p < 24 := by
  obtain ⟨a1, a2, a3, a4⟩ := h1 p hp
  have := a3 hk
  have := (a2 (by omega)).2
  omega
/-- a page that is in no queue comes to the end of one -/
theorem inv_enq0 {S' : HSt} {q : Nat} (hp : p < 16) (hn : kd S p ≠ 1) (h3 : I3 S) (ek : kd S' = ud (kd S) p 1) (eo : ∀ x, x ≠ p → ow S' x = ow S x) (ec : ∀ x, x ≠ p → cl S' x = cl S x) (hq : 6 * ow S' p + cl S' p = q) (eq : qu S' = ud (qu S) q (qu S q ++ [p])) : I3 S' := by
  intro q' hq'
  obtain ⟨a1, a2⟩ := h3 q' hq'
  rw [eq]
  have hnot : p ∉ qu S q' := fun h => hn ((a2 p).mp h).2.1
  by_cases e : q' = q
  · subst e
    rw [ud_s]
    refine ⟨List.nodup_append.mpr ⟨a1, by simp, fun x hx y hy => ?_⟩, fun x => ?_⟩
    · cases List.mem_singleton.mp hy
      exact nem hnot hx
    · rw [List.mem_append, List.mem_singleton, a2 x, ek]
      by_cases ex : x = p
      · subst ex
        rw [ud_s]
        exact ⟨fun _ => ⟨hp, rfl, hq⟩, fun _ => Or.inr rfl⟩
      · rw [ud_n _ _ ex, eo x ex, ec x ex]
        exact ⟨fun h => h.resolve_right ex, Or.inl⟩
  · rw [ud_n _ _ e]
    refine ⟨a1, fun x => ?_⟩
    rw [a2 x, ek]
    by_cases ex : x = p
    · subst ex
      rw [ud_s]
      exact ⟨fun h => absurd h.2.1 hn, fun h => absurd (h.2.2.symm.trans hq) e⟩
    · rw [ud_n _ _ ex, eo x ex, ec x ex]
theorem inv_enq (hp : p < 16) (hk : kd S p = 2) (h : Inv ρ β S) : Inv ρ β (oEnq p S) := by
  obtain ⟨h1, h2, h3, h4, h5⟩ := h
  have hz : ∀ x, kd (oEnq p S) x = 0 ↔ kd S x = 0 := fun x => by
    show ud (kd S) p 1 x = 0 ↔ kd S x = 0
    by_cases e : x = p
    · subst e; rw [ud_s]; omega
    · rw [ud_n _ _ e]
  have hc : ∀ x, cut ρ (oEnq p S) x = cut ρ S x := fun x => cut_eq (hz x) (fun _ => rfl)
  refine ⟨?_, ?_, inv_enq0 (S' := oEnq p S) hp (by omega) h3 rfl (fun _ _ => rfl) (fun _ _ => rfl) rfl rfl, h4, h5⟩
  · intro x hx
    obtain ⟨a1, a2, a3, a4⟩ := h1 x hx
    show ud (kd S) p 1 x ≤ 3 ∧ (ud (kd S) p 1 x ≠ 0 → _) ∧ (ud (kd S) p 1 x = 1 ∨ ud (kd S) p 1 x = 2 → ow S x < rT ρ) ∧ (ud (kd S) p 1 x = 2 → bl S (3 * x) = [])
    by_cases e : x = p
    · subst e
      rw [ud_s]
      exact ⟨by omega, fun _ => a2 (by omega), fun _ => a3 (Or.inr hk), fun q => by omega⟩
    · rw [ud_n _ _ e]
      exact ⟨a1, a2, a3, a4⟩
  · intro x hx b
    rw [hc x]
    exact h2 x hx b
/-- a page leaves its queue: I3 -/
theorem inv_leave0 {S' : HSt} {v : Nat} (hv : v ≠ 1) (h3 : I3 S) (ek : kd S' = ud (kd S) p v) (eo : ow S' = ow S) (ec : cl S' = cl S) (eq : qu S' = qu (oLeave p S)) : I3 S' := by
  intro q' hq'
  obtain ⟨a1, a2⟩ := h3 q' hq'
  rw [eq, ek, eo, ec]
  unfold oLeave
  by_cases hk : kd S p = 1
  · rw [if_pos hk]
    show (ud (qu S) _ _ q').Nodup ∧ ∀ x, x ∈ ud (qu S) _ _ q' ↔ _
    by_cases e : q' = 6 * ow S p + cl S p
    · subst e
      rw [ud_s]
      refine ⟨a1.erase _, fun x => ?_⟩
      rw [List.Nodup.mem_erase_iff a1, a2 x]
      by_cases ex : x = p
      · subst ex
        rw [ud_s]
        exact ⟨fun h => absurd rfl h.1, fun h => absurd h.2.1 hv⟩
      · rw [ud_n _ _ ex]
        exact ⟨fun h => h.2, fun h => ⟨ex, h⟩⟩
    · rw [ud_n _ _ e]
      refine ⟨a1, fun x => ?_⟩
      rw [a2 x]
      by_cases ex : x = p
      · subst ex
        rw [ud_s]
        exact ⟨fun h => absurd h.2.2.symm e, fun h => absurd h.2.1 hv⟩
      · rw [ud_n _ _ ex]
  · rw [if_neg hk]
    refine ⟨a1, fun x => ?_⟩
    rw [a2 x]
    by_cases ex : x = p
    · subst ex
      rw [ud_s]
      exact ⟨fun h => absurd h.2.1 hk, fun h => absurd h.2.1 hv⟩
    · rw [ud_n _ _ ex]
theorem leave_pr (p : Nat) (S : HSt) : kd (oLeave p S) = kd S ∧ ow (oLeave p S) = ow S ∧ cl (oLeave p S) = cl S ∧ hd (oLeave p S) = hd S ∧ bl (oLeave p S) = bl S ∧ lv (oLeave p S) = lv S ∧ gt (oLeave p S) = gt S ∧ lg (oLeave p S) = lg S := by
  unfold oLeave
  by_cases hk : kd S p = 1
  · rw [if_pos hk]; exact ⟨rfl, rfl, rfl, rfl, rfl, rfl, rfl, rfl⟩
  · rw [if_neg hk]; exact ⟨rfl, rfl, rfl, rfl, rfl, rfl, rfl, rfl⟩
theorem inv_empty (hp : p < 16) (hu : usd ρ S p = 0) (h : Inv ρ β S) : Inv ρ β (oEmpty p S) := by
  obtain ⟨h1, h2, h3, h4, h5⟩ := h
  obtain ⟨-, e2, e3, e4, -, e6, e7, e8⟩ := leave_pr p S
  have f2 : ow (oEmpty p S) = ow S := e2
  have f3 : cl (oEmpty p S) = cl S := e3
  have f4 : hd (oEmpty p S) = hd S := e4
  have f6 : lv (oEmpty p S) = lv S := e6
  have f7 : gt (oEmpty p S) = gt S := e7
  have f8 : lg (oEmpty p S) = lg S := e8
  have fk : kd (oEmpty p S) = ud (kd S) p 0 := rfl
  have fb : bl (oEmpty p S) = ud (ud (ud (bl S) (3 * p) []) (3 * p + 1) []) (3 * p + 2) [] := rfl
  refine ⟨?_, ?_, inv_leave0 (S' := oEmpty p S) (v := 0) (by omega) h3 rfl f2 f3 rfl, ?_, ?_⟩
  · intro x hx
    obtain ⟨a1, a2, a3, a4⟩ := h1 x hx
    rw [fk, f2, f3, fb]
    by_cases e : x = p
    · subst e
      rw [ud_s]
      exact ⟨by omega, fun q => absurd rfl q, fun q => by omega, fun q => by omega⟩
    · rw [ud_n _ _ e]
      simp (disch := omega) only [ud_n]
      exact ⟨a1, a2, a3, a4⟩
  · intro x hx b
    rw [f4]
    by_cases e : x = p
    · subst e
      have hc : cut ρ (oEmpty x S) x = 0 := by
        unfold cut
        rw [fk, ud_s, if_pos rfl]
      have h6 : ct (oEmpty x S) x b = 0 := by
        have b0 := usd_0 h2 hp hu (t := 0) (by omega)
        have b1 := usd_0 h2 hp hu (t := 1) (by omega)
        have b2 := usd_0 h2 hp hu (t := 2) (by omega)
        have b3 := usd_0 h2 hp hu (t := 3) (by omega)
        unfold ct
        rw [fb]
        simp (disch := omega) only [ud_e, ud_n, b0, b1, b2, b3, List.count_nil]
      rw [hc, h6]
      exact ⟨fun q => by omega, fun _ => rfl⟩
    · have hc : cut ρ (oEmpty p S) x = cut ρ S x := cut_eq (by rw [fk, ud_n _ _ e]) (fun _ => by rw [f3])
      have h6 : ct (oEmpty p S) x b = ct S x b := by
        unfold ct
        rw [fb]
        simp (disch := omega) only [ud_n]
      rw [hc, h6]
      exact h2 x hx b
  · intro t' p' ht' hp'
    rw [fb]
    simp (disch := omega) only [ud_n]
    exact h4 t' p' ht' hp'
  · unfold I5
    rw [f6, f7, f8]
    exact h5
theorem inv_aband (hp : p < 16) (hk : kd S p ≠ 0) (h : Inv ρ β S) : Inv ρ β (oAband p S) := by
  obtain ⟨h1, h2, h3, h4, h5⟩ := h
  obtain ⟨-, e2, e3, e4, e5, e6, e7, e8⟩ := leave_pr p S
  have f2 : ow (oAband p S) = ow S := e2
  have f3 : cl (oAband p S) = cl S := e3
  have f4 : hd (oAband p S) = hd S := e4
  have f5 : bl (oAband p S) = bl S := e5
  have f6 : lv (oAband p S) = lv S := e6
  have f7 : gt (oAband p S) = gt S := e7
  have f8 : lg (oAband p S) = lg S := e8
  have fk : kd (oAband p S) = ud (kd S) p 3 := rfl
  refine ⟨?_, ?_, inv_leave0 (S' := oAband p S) (v := 3) (by omega) h3 rfl f2 f3 rfl, ?_, ?_⟩
  · intro x hx
    obtain ⟨a1, a2, a3, a4⟩ := h1 x hx
    rw [fk, f2, f3, f5]
    by_cases e : x = p
    · subst e
      rw [ud_s]
      exact ⟨by omega, fun q => a2 hk, fun q => by omega, fun q => by omega⟩
    · rw [ud_n _ _ e]
      exact ⟨a1, a2, a3, a4⟩
  · intro x hx b
    have hc : cut ρ (oAband p S) x = cut ρ S x := cut_eq (by
      rw [fk]
      by_cases e : x = p
      · subst e; rw [ud_s]; omega
      · rw [ud_n _ _ e]) (fun _ => by rw [f3])
    rw [f4, hc, ct_bl f5]
    exact h2 x hx b
  · unfold I4
    rw [f5]
    exact h4
  · unfold I5
    rw [f6, f7, f8]
    exact h5
theorem inv_full {q : Nat} {r : List Nat} (hq : q < 24) (e : qu S q = p :: r) (hl : lst S p = 0) (h : Inv ρ β S) : Inv ρ β (oFull p q S) := by
  obtain ⟨h1, h2, h3, h4, h5⟩ := h
  obtain ⟨a1, a2⟩ := h3 q hq
  obtain ⟨hp, hk, hqp⟩ := (a2 p).mp (by rw [e]; exact List.mem_cons_self)
  rw [e] at a1
  obtain ⟨a3, a4⟩ := List.nodup_cons.mp a1
  have hz : ∀ x, kd (oFull p q S) x = 0 ↔ kd S x = 0 := fun x => by
    show ud (kd S) p 2 x = 0 ↔ kd S x = 0
    by_cases e : x = p
    · subst e; rw [ud_s]; omega
    · rw [ud_n _ _ e]
  have hc : ∀ x, cut ρ (oFull p q S) x = cut ρ S x := fun x => cut_eq (hz x) (fun _ => rfl)
  have h0 : bl S (3 * p) = [] := by
    unfold lst at hl
    exact List.length_eq_zero_iff.mp (by omega)
  refine ⟨?_, ?_, ?_, h4, h5⟩
  · intro x hx
    obtain ⟨b1, b2, b3, b4⟩ := h1 x hx
    show ud (kd S) p 2 x ≤ 3 ∧ (ud (kd S) p 2 x ≠ 0 → _) ∧ (ud (kd S) p 2 x = 1 ∨ ud (kd S) p 2 x = 2 → ow S x < rT ρ) ∧ (ud (kd S) p 2 x = 2 → bl S (3 * x) = [])
    by_cases e : x = p
    · subst e
      rw [ud_s]
      exact ⟨by omega, fun _ => b2 (by omega), fun _ => b3 (Or.inl hk), fun _ => h0⟩
    · rw [ud_n _ _ e]
      exact ⟨b1, b2, b3, b4⟩
  · intro x hx b
    rw [hc x]
    exact h2 x hx b
  · intro q' hq'
    obtain ⟨b1, b2⟩ := h3 q' hq'
    show (ud (qu S) q (qu S q).tail q').Nodup ∧ ∀ x, x ∈ ud (qu S) q (qu S q).tail q' ↔ x < 16 ∧ ud (kd S) p 2 x = 1 ∧ 6 * ow S x + cl S x = q'
    by_cases eq : q' = q
    · subst eq
      rw [ud_s, e, List.tail_cons]
      refine ⟨a4, fun x => ?_⟩
      have b3 := a2 x
      rw [e, List.mem_cons] at b3
      by_cases ex : x = p
      · subst ex
        rw [ud_s]
        exact ⟨fun h => absurd h a3, fun h => by omega⟩
      · rw [ud_n _ _ ex, ← b3]
        exact ⟨Or.inr, fun h => h.resolve_left ex⟩
    · rw [ud_n _ _ eq]
      refine ⟨b1, fun x => ?_⟩
      rw [b2 x]
      by_cases ex : x = p
      · subst ex
        rw [ud_s]
        exact ⟨fun h => absurd (h.2.2.symm.trans hqp) eq, fun h => by omega⟩
      · rw [ud_n _ _ ex]
theorem inv_adopt (ht : t < rT ρ) (hp : p < 16) (hk : kd S p = 3) (h : Inv ρ β S) : Inv ρ β (oAdopt t p S) := by
  obtain ⟨h1, h2, h3, h4, h5⟩ := h
  have hz : ∀ x, kd (oAdopt t p S) x = 0 ↔ kd S x = 0 := fun x => by
    show ud (kd S) p 1 x = 0 ↔ kd S x = 0
    by_cases e : x = p
    · subst e; rw [ud_s]; omega
    · rw [ud_n _ _ e]
  have hc : ∀ x, cut ρ (oAdopt t p S) x = cut ρ S x := fun x => cut_eq (hz x) (fun _ => rfl)
  refine ⟨?_, ?_, inv_enq0 (S' := oAdopt t p S) hp (by omega) h3 rfl (fun x hx => ud_n _ _ hx) (fun _ _ => rfl) rfl rfl, h4, h5⟩
  · intro x hx
    obtain ⟨a1, a2, a3, a4⟩ := h1 x hx
    show ud (kd S) p 1 x ≤ 3 ∧ (ud (kd S) p 1 x ≠ 0 → _) ∧ (ud (kd S) p 1 x = 1 ∨ ud (kd S) p 1 x = 2 → ud (ow S) p t x < rT ρ) ∧ (ud (kd S) p 1 x = 2 → bl S (3 * x) = [])
    by_cases e : x = p
    · subst e
      rw [ud_s, ud_s]
      exact ⟨by omega, fun _ => a2 (by omega), fun _ => ht, fun q => by omega⟩
    · rw [ud_n _ _ e, ud_n _ _ e]
      exact ⟨a1, a2, a3, a4⟩
  · intro x hx b
    rw [hc x]
    exact h2 x hx b
end AC
