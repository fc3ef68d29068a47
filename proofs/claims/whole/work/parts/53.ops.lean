section AC
variable {ρ : Rul} {β : Nat} {S : HSt} {p t b : Nat}
theorem cnt_range (n b : Nat) : (List.range n).count b = if b < n then 1 else 0 := by
  by_cases h : b < n
  · rw [if_pos h]
    have h1 : 0 < (List.range n).count b := List.count_pos_iff.mpr (List.mem_range.mpr h)
    have h2 := List.nodup_iff_count.mp (List.nodup_range (n := n)) b
    omega
  · rw [if_neg h]
    exact List.count_eq_zero.mpr (fun q => h (List.mem_range.mp q))
/-- a page without blocks has nothing in lists or outboxes -/
theorem ct_nil (hp : p < 16) (h2 : I2 ρ S) (hc : cut ρ S p = 0) : (bl S (3 * p) = [] ∧ bl S (3 * p + 1) = [] ∧ bl S (3 * p + 2) = []) ∧ ∀ t, t < 4 → bl S (48 + 16 * t + p) = [] := by
  have key : ∀ l, (l = 3 * p ∨ l = 3 * p + 1 ∨ l = 3 * p + 2 ∨ l = 48 + 16 * 0 + p ∨ l = 48 + 16 * 1 + p ∨ l = 48 + 16 * 2 + p ∨ l = 48 + 16 * 3 + p) → bl S l = [] := by
    intro l hl
    cases e : bl S l with
    | nil => rfl
    | cons x xs =>
      have := (in_cut h2 hp hl (b := x) (by rw [e]; exact List.mem_cons_self)).1
      omega
  exact ⟨⟨key _ (Or.inl rfl), key _ (Or.inr (Or.inl rfl)), key _ (Or.inr (Or.inr (Or.inl rfl)))⟩, fun t ht => key _ (bx_of ht p)⟩
theorem cut_0 (h : kd S p = 0) : cut ρ S p = 0 := if_pos h
theorem inv_fill {c : Nat} (ht : t < rT ρ) (hc : c < rK ρ) (hp : p < rP ρ) (hP : rP ρ ≤ 16) (hk : kd S p = 0) (h : Inv ρ β S) : Inv ρ β (oFill ρ t c p S) := by
  obtain ⟨h1, h2, h3, h4, h5⟩ := h
  have hp16 : p < 16 := by omega
  obtain ⟨⟨z1, z2, z3⟩, z4⟩ := ct_nil hp16 h2 (cut_0 hk)
  have hz : ∀ x, x ≠ p → cut ρ (oFill ρ t c p S) x = cut ρ S x := fun x hx => cut_eq (by
    show ud (kd S) p 1 x = 0 ↔ kd S x = 0
    rw [ud_n _ _ hx]) (fun _ => ud_n _ _ hx)
  have hcp : cut ρ (oFill ρ t c p S) p = rU ρ / rZ ρ c := by
    show (if ud (kd S) p 1 p = 0 then 0 else rU ρ / rZ ρ (ud (cl S) p c p)) = _
    rw [ud_s, ud_s, if_neg (by omega)]
  refine ⟨?_, ?_, inv_enq0 (S' := oFill ρ t c p S) hp16 (by omega) h3 rfl (fun x hx => ud_n _ _ hx) (fun x hx => ud_n _ _ hx) rfl rfl, ?_, h5⟩
  · intro x hx
    obtain ⟨a1, a2, a3, a4⟩ := h1 x hx
    show ud (kd S) p 1 x ≤ 3 ∧ (ud (kd S) p 1 x ≠ 0 → x < rP ρ ∧ ud (cl S) p c x < rK ρ) ∧ (ud (kd S) p 1 x = 1 ∨ ud (kd S) p 1 x = 2 → ud (ow S) p t x < rT ρ) ∧ (ud (kd S) p 1 x = 2 → ud (bl S) (3 * p) (List.range (rU ρ / rZ ρ c)) (3 * x) = [])
    by_cases e : x = p
    · subst e
      rw [ud_s, ud_s, ud_s]
      exact ⟨by omega, fun _ => ⟨hp, hc⟩, fun _ => ht, fun q => by omega⟩
    · rw [ud_n _ _ e, ud_n _ _ e, ud_n _ _ e, ud_n _ _ (by omega)]
      exact ⟨a1, a2, a3, a4⟩
  · intro x hx b
    show (b < cut ρ (oFill ρ t c p S) x → ct (oFill ρ t c p S) x b + ud (hd S) p (fun b => if b < rU ρ / rZ ρ c then 0 else hd S p b) x b = 1) ∧ (cut ρ (oFill ρ t c p S) x ≤ b → ct (oFill ρ t c p S) x b = 0)
    have fb : bl (oFill ρ t c p S) = ud (bl S) (3 * p) (List.range (rU ρ / rZ ρ c)) := rfl
    by_cases e : x = p
    · subst e
      have b0 := z4 0 (by omega)
      have b1 := z4 1 (by omega)
      have b2 := z4 2 (by omega)
      have b3 := z4 3 (by omega)
      have h6 : ct (oFill ρ t c x S) x b = if b < rU ρ / rZ ρ c then 1 else 0 := by
        unfold ct
        rw [fb]
        simp (disch := omega) only [ud_e, ud_n, b0, b1, b2, b3, z2, z3, List.count_nil, cnt_range, Nat.add_zero]
      rw [hcp, h6, ud_s]
      refine ⟨fun q => ?_, fun q => ?_⟩
      · rw [if_pos q, if_pos q]
      · rw [if_neg (by omega)]
    · have h6 : ct (oFill ρ t c p S) x b = ct S x b := by
        unfold ct
        rw [fb]
        simp (disch := omega) only [ud_n]
      rw [hz x e, h6, ud_n _ _ e]
      exact h2 x hx b
  · intro t' p' ht' hp'
    show (ud (bl S) (3 * p) (List.range (rU ρ / rZ ρ c)) (48 + 16 * t' + p')).length ≤ 9 ∧ (rT ρ ≤ t' → ud (bl S) (3 * p) (List.range (rU ρ / rZ ρ c)) (48 + 16 * t' + p') = [])
    rw [ud_n _ _ (by omega)]
    exact h4 t' p' ht' hp'
theorem inv_move {w : Nat} (hw : w = 1 ∨ w = 2) (hp : p < 16) (h : Inv ρ β S) (hk : kd S p ≠ 2) : Inv ρ β (oMove (3 * p + w) (3 * p) S) := by
  obtain ⟨h1, h2, h3, h4, h5⟩ := h
  refine ⟨?_, ?_, h3, ?_, h5⟩
  · intro x hx
    obtain ⟨a1, a2, a3, a4⟩ := h1 x hx
    refine ⟨a1, a2, a3, fun e => ?_⟩
    by_cases ex : x = p
    · subst ex; exact absurd e hk
    · have := a4 e
      simp (disch := omega) only [oMove, bl_wbl, ud_n]
      exact this
  · intro x hx b
    have h6 := h2 x hx b
    have h7 : ct (oMove (3 * p + w) (3 * p) S) x b = ct S x b := by
      by_cases e : x = p
      · subst e
        rcases hw with rfl | rfl <;> simp (disch := omega) only [ct, oMove, bl_wbl, ud_e, ud_n, List.count_append, List.count_nil] <;> omega
      · rcases hw with rfl | rfl <;> simp (disch := omega) only [ct, oMove, bl_wbl, ud_n]
    show (b < cut ρ S x → ct (oMove (3 * p + w) (3 * p) S) x b + hd S x b = 1) ∧ (cut ρ S x ≤ b → ct (oMove (3 * p + w) (3 * p) S) x b = 0)
    rw [h7]
    exact h6
  · intro t' p' ht' hp'
    simp (disch := omega) only [oMove, bl_wbl, ud_n]
    exact h4 t' p' ht' hp'
theorem inv_coll (hp : p < 16) (h : Inv ρ β S) (hk : kd S p ≠ 2) : Inv ρ β (oColl p S) := by
  unfold oColl
  by_cases h1 : bl S (3 * p) = []
  · rw [if_neg (fun q => q h1)]
    by_cases h2 : bl S (3 * p + 1) = []
    · rw [if_neg (fun q => q h2)]
      exact inv_move (Or.inr rfl) hp h hk
    · rw [if_pos h2]
      exact inv_move (Or.inl rfl) hp h hk
  · rw [if_pos h1]
    exact h
theorem inv_take {r : List Nat} (hp : p < 16) (e : bl S (3 * p) = b :: r) (h : Inv ρ β S) : Inv ρ β (oTake p S) := by
  obtain ⟨h1, h2, h3, h4, h5⟩ := h
  obtain ⟨hb, hh⟩ := in_cut h2 hp (Or.inl rfl) (b := b) (by rw [e]; exact List.mem_cons_self)
  have eq : oTake p S = oHd p b 1 (wbl S (ud (bl S) (3 * p) r)) := by
    unfold oTake
    rw [e]
    rfl
  rw [eq]
  refine ⟨?_, ?_, h3, ?_, h5⟩
  · intro x hx
    obtain ⟨a1, a2, a3, a4⟩ := h1 x hx
    refine ⟨a1, a2, a3, fun ek => ?_⟩
    have h6 := a4 ek
    by_cases ex : x = p
    · subst ex
      rw [h6] at e
      cases e
    · simp (disch := omega) only [oHd, kd_wkd, kd_wow, kd_wcl, kd_whd, kd_wbl, kd_wqu, kd_wlv, kd_wgt, kd_wlg, ow_wkd, ow_wow, ow_wcl, ow_whd, ow_wbl, ow_wqu, ow_wlv, ow_wgt, ow_wlg, cl_wkd, cl_wow, cl_wcl, cl_whd, cl_wbl, cl_wqu, cl_wlv, cl_wgt, cl_wlg, hd_wkd, hd_wow, hd_wcl, hd_whd, hd_wbl, hd_wqu, hd_wlv, hd_wgt, hd_wlg, bl_wkd, bl_wow, bl_wcl, bl_whd, bl_wbl, bl_wqu, bl_wlv, bl_wgt, bl_wlg, qu_wkd, qu_wow, qu_wcl, qu_whd, qu_wbl, qu_wqu, qu_wlv, qu_wgt, qu_wlg, lv_wkd, lv_wow, lv_wcl, lv_whd, lv_wbl, lv_wqu, lv_wlv, lv_wgt, lv_wlg, gt_wkd, gt_wow, gt_wcl, gt_whd, gt_wbl, gt_wqu, gt_wlv, gt_wgt, gt_wlg, lg_wkd, lg_wow, lg_wcl, lg_whd, lg_wbl, lg_wqu, lg_wlv, lg_wgt, lg_wlg, ud_n]
      exact h6
  · intro x hx b'
    have h6 := h2 x hx b'
    show (b' < cut ρ S x → ct (oHd p b 1 (wbl S (ud (bl S) (3 * p) r))) x b' + ud (hd S) p (ud (hd S p) b 1) x b' = 1) ∧ (cut ρ S x ≤ b' → ct (oHd p b 1 (wbl S (ud (bl S) (3 * p) r))) x b' = 0)
    by_cases ex : x = p
    · subst ex
      have h7 : ct S x b' = ct (oHd x b 1 (wbl S (ud (bl S) (3 * x) r))) x b' + (if b = b' then 1 else 0) := by
        simp (disch := omega) only [ct, oHd, kd_wkd, kd_wow, kd_wcl, kd_whd, kd_wbl, kd_wqu, kd_wlv, kd_wgt, kd_wlg, ow_wkd, ow_wow, ow_wcl, ow_whd, ow_wbl, ow_wqu, ow_wlv, ow_wgt, ow_wlg, cl_wkd, cl_wow, cl_wcl, cl_whd, cl_wbl, cl_wqu, cl_wlv, cl_wgt, cl_wlg, hd_wkd, hd_wow, hd_wcl, hd_whd, hd_wbl, hd_wqu, hd_wlv, hd_wgt, hd_wlg, bl_wkd, bl_wow, bl_wcl, bl_whd, bl_wbl, bl_wqu, bl_wlv, bl_wgt, bl_wlg, qu_wkd, qu_wow, qu_wcl, qu_whd, qu_wbl, qu_wqu, qu_wlv, qu_wgt, qu_wlg, lv_wkd, lv_wow, lv_wcl, lv_whd, lv_wbl, lv_wqu, lv_wlv, lv_wgt, lv_wlg, gt_wkd, gt_wow, gt_wcl, gt_whd, gt_wbl, gt_wqu, gt_wlv, gt_wgt, gt_wlg, lg_wkd, lg_wow, lg_wcl, lg_whd, lg_wbl, lg_wqu, lg_wlv, lg_wgt, lg_wlg, ud_e, ud_n, e, List.count_cons, beq_iff_eq]
        omega
      rw [ud_s]
      by_cases eb : b = b'
      · subst eb
        rw [if_pos rfl] at h7
        rw [ud_s]
        omega
      · rw [if_neg eb] at h7
        rw [ud_n _ _ (Ne.symm eb)]
        omega
    · have h7 : ct (oHd p b 1 (wbl S (ud (bl S) (3 * p) r))) x b' = ct S x b' := by
        simp (disch := omega) only [ct, oHd, kd_wkd, kd_wow, kd_wcl, kd_whd, kd_wbl, kd_wqu, kd_wlv, kd_wgt, kd_wlg, ow_wkd, ow_wow, ow_wcl, ow_whd, ow_wbl, ow_wqu, ow_wlv, ow_wgt, ow_wlg, cl_wkd, cl_wow, cl_wcl, cl_whd, cl_wbl, cl_wqu, cl_wlv, cl_wgt, cl_wlg, hd_wkd, hd_wow, hd_wcl, hd_whd, hd_wbl, hd_wqu, hd_wlv, hd_wgt, hd_wlg, bl_wkd, bl_wow, bl_wcl, bl_whd, bl_wbl, bl_wqu, bl_wlv, bl_wgt, bl_wlg, qu_wkd, qu_wow, qu_wcl, qu_whd, qu_wbl, qu_wqu, qu_wlv, qu_wgt, qu_wlg, lv_wkd, lv_wow, lv_wcl, lv_whd, lv_wbl, lv_wqu, lv_wlv, lv_wgt, lv_wlg, gt_wkd, gt_wow, gt_wcl, gt_whd, gt_wbl, gt_wqu, gt_wlv, gt_wgt, gt_wlg, lg_wkd, lg_wow, lg_wcl, lg_whd, lg_wbl, lg_wqu, lg_wlv, lg_wgt, lg_wlg, ud_n]
      rw [h7, ud_n _ _ ex]
      exact h6
  · intro t' p' ht' hp'
    simp (disch := omega) only [oHd, kd_wkd, kd_wow, kd_wcl, kd_whd, kd_wbl, kd_wqu, kd_wlv, kd_wgt, kd_wlg, ow_wkd, ow_wow, ow_wcl, ow_whd, ow_wbl, ow_wqu, ow_wlv, ow_wgt, ow_wlg, cl_wkd, cl_wow, cl_wcl, cl_whd, cl_wbl, cl_wqu, cl_wlv, cl_wgt, cl_wlg, hd_wkd, hd_wow, hd_wcl, hd_whd, hd_wbl, hd_wqu, hd_wlv, hd_wgt, hd_wlg, bl_wkd, bl_wow, bl_wcl, bl_whd, bl_wbl, bl_wqu, bl_wlv, bl_wgt, bl_wlg, qu_wkd, qu_wow, qu_wcl, qu_whd, qu_wbl, qu_wqu, qu_wlv, qu_wgt, qu_wlg, lv_wkd, lv_wow, lv_wcl, lv_whd, lv_wbl, lv_wqu, lv_wlv, lv_wgt, lv_wlg, gt_wkd, gt_wow, gt_wcl, gt_whd, gt_wbl, gt_wqu, gt_wlv, gt_wgt, gt_wlg, lg_wkd, lg_wow, lg_wcl, lg_whd, lg_wbl, lg_wqu, lg_wlv, lg_wgt, lg_wlg, ud_n]
    exact h4 t' p' ht' hp'
end AC
