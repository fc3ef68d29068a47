/-! THE ACTS OF AN ARENA -/
theorem ud_e {α : Type} {f : Nat → α} {i j : Nat} {x : α} (h : j = i) : ud f i x j = x := if_pos h
/-- all of an outbox goes home -/
def oHome (t p : Nat) (S : HSt) : HSt := wbl S (ud (ud (bl S) (3 * p + 2) (bl S (48 + 16 * t + p) ++ bl S (3 * p + 2))) (48 + 16 * t + p) [])
def oHd (p b v : Nat) (S : HSt) : HSt := whd S (ud (hd S) p (ud (hd S p) b v))
def oPush (l b : Nat) (S : HSt) : HSt := wbl S (ud (bl S) l (b :: bl S l))
def oEnq (p : Nat) (S : HSt) : HSt := wqu (wkd S (ud (kd S) p 1)) (ud (qu S) (6 * ow S p + cl S p) (qu S (6 * ow S p + cl S p) ++ [p]))
def oLeave (p : Nat) (S : HSt) : HSt := if kd S p = 1 then wqu S (ud (qu S) (6 * ow S p + cl S p) ((qu S (6 * ow S p + cl S p)).erase p)) else S
def oEmpty (p : Nat) (S : HSt) : HSt := wbl (wkd (oLeave p S) (ud (kd S) p 0)) (ud (ud (ud (bl S) (3 * p) []) (3 * p + 1) []) (3 * p + 2) [])
def oAband (p : Nat) (S : HSt) : HSt := wkd (oLeave p S) (ud (kd S) p 3)
def oFull (p q : Nat) (S : HSt) : HSt := wqu (wkd S (ud (kd S) p 2)) (ud (qu S) q (qu S q).tail)
def oAdopt (t p : Nat) (S : HSt) : HSt := oEnq p (wow S (ud (ow S) p t))
def oFill0 (ρ : Rul) (t c p : Nat) (S : HSt) : HSt := wow (wcl (whd (wbl S (ud (bl S) (3 * p) (List.range (rU ρ / rZ ρ c)))) (ud (hd S) p (fun b => if b < rU ρ / rZ ρ c then 0 else hd S p b))) (ud (cl S) p c)) (ud (ow S) p t)
def oFill (ρ : Rul) (t c p : Nat) (S : HSt) : HSt := oEnq p (oFill0 ρ t c p S)
def oMove (l l' : Nat) (S : HSt) : HSt := wbl S (ud (ud (bl S) l' (bl S l ++ bl S l')) l [])
def oColl (p : Nat) (S : HSt) : HSt := if bl S (3 * p) ≠ [] then S else if bl S (3 * p + 1) ≠ [] then oMove (3 * p + 1) (3 * p) S else oMove (3 * p + 2) (3 * p) S
def oTake (p : Nat) (S : HSt) : HSt := oHd p ((bl S (3 * p)).headD 0) 1 (wbl S (ud (bl S) (3 * p) (bl S (3 * p)).tail))
section AC
variable {ρ : Rul} {β : Nat} {S : HSt} {p t b : Nat}
theorem cut_le (hR : RuOK ρ) (h1 : I1 ρ S) (hp : p < 16) : cut ρ S p ≤ 40 := by
  unfold cut
  by_cases h : kd S p = 0
  · rw [if_pos h]; omega
  · rw [if_neg h]
    obtain ⟨-, a, -, -⟩ := h1 p hp
    have h2 := hR.2.1 _ (a h).2
    have h3 := hR.1.2.2.1
    exact Nat.le_trans (Nat.div_le_self _ _) h3.2
theorem cut_pos (hR : RuOK ρ) (h1 : I1 ρ S) (hp : p < 16) (h : kd S p ≠ 0) : 0 < cut ρ S p := by
  unfold cut
  rw [if_neg h]
  obtain ⟨-, a, -, -⟩ := h1 p hp
  have h2 := hR.2.1 _ (a h).2
  exact Nat.div_pos h2.2 h2.1
theorem cnt_of (h2 : I2 ρ S) (hp : p < 16) (b : Nat) : ct S p b ≤ 1 := by
  have := h2 p hp b
  by_cases h : b < cut ρ S p
  · have := this.1 h; omega
  · have := this.2 (by omega); omega
/-- a list of a page -/
theorem mem_cnt {x : Nat} {xs : List Nat} (h : x ∈ xs) : 0 < xs.count x := List.count_pos_iff.mpr h
theorem three_nd (h2 : I2 ρ S) (hp : p < 16) : (bl S (3 * p) ++ (bl S (3 * p + 1) ++ bl S (3 * p + 2))).Nodup := by
  refine List.nodup_iff_count.mpr (fun b => ?_)
  have := cnt_of h2 hp b
  unfold ct at this
  rw [List.count_append, List.count_append]
  omega
theorem in_cut (h2 : I2 ρ S) (hp : p < 16) {l : Nat} (hl : l = 3 * p ∨ l = 3 * p + 1 ∨ l = 3 * p + 2 ∨ l = 48 + 16 * 0 + p ∨ l = 48 + 16 * 1 + p ∨ l = 48 + 16 * 2 + p ∨ l = 48 + 16 * 3 + p) (hb : b ∈ bl S l) : b < cut ρ S p ∧ hd S p b = 0 := by
  have h3 := mem_cnt hb
  have h4 := h2 p hp b
  unfold ct at h4
  by_cases h : b < cut ρ S p
  · have := h4.1 h
    refine ⟨h, ?_⟩
    rcases hl with rfl | rfl | rfl | rfl | rfl | rfl | rfl <;> omega
  · have := h4.2 (by omega)
    rcases hl with rfl | rfl | rfl | rfl | rfl | rfl | rfl <;> omega
theorem lst_le (h2 : I2 ρ S) (hp : p < 16) : lst S p ≤ cut ρ S p := by
  have := nd_len (three_nd h2 hp) (n := cut ρ S p) (fun t ht => by
    rcases List.mem_append.mp ht with q | q
    · exact (in_cut h2 hp (Or.inl rfl) q).1
    · rcases List.mem_append.mp q with q | q
      · exact (in_cut h2 hp (Or.inr (Or.inl rfl)) q).1
      · exact (in_cut h2 hp (Or.inr (Or.inr (Or.inl rfl))) q).1)
  rw [List.length_append, List.length_append] at this
  unfold lst
  omega
theorem bx_of (ht : t < 4) (p : Nat) : 48 + 16 * t + p = 3 * p ∨ 48 + 16 * t + p = 3 * p + 1 ∨ 48 + 16 * t + p = 3 * p + 2 ∨ 48 + 16 * t + p = 48 + 16 * 0 + p ∨ 48 + 16 * t + p = 48 + 16 * 1 + p ∨ 48 + 16 * t + p = 48 + 16 * 2 + p ∨ 48 + 16 * t + p = 48 + 16 * 3 + p := by omega
/-- nothing is used: nothing is in an outbox -/
theorem usd_0 (h2 : I2 ρ S) (hp : p < 16) (hu : usd ρ S p = 0) (ht : t < 4) : bl S (48 + 16 * t + p) = [] := by
  cases e : bl S (48 + 16 * t + p) with
  | nil => rfl
  | cons x xs =>
    have hx : x ∈ bl S (48 + 16 * t + p) := by rw [e]; exact List.mem_cons_self
    obtain ⟨h3, -⟩ := in_cut h2 hp (bx_of ht p) hx
    have h4 := mem_cnt hx
    have h5 := cnt_of h2 hp x
    unfold ct at h5
    have h6 : x ∉ (bl S (3 * p) ++ (bl S (3 * p + 1) ++ bl S (3 * p + 2))) := by
      intro q
      have h7 := mem_cnt q
      rw [List.count_append, List.count_append] at h7
      rcases (show t = 0 ∨ t = 1 ∨ t = 2 ∨ t = 3 by omega) with rfl | rfl | rfl | rfl <;> omega
    have h8 := nd_len (List.nodup_cons.mpr ⟨h6, three_nd h2 hp⟩) (n := cut ρ S p) (fun t ht => by
      rcases List.mem_cons.mp ht with rfl | ht
      · exact h3
      rcases List.mem_append.mp ht with q | q
      · exact (in_cut h2 hp (Or.inl rfl) q).1
      · rcases List.mem_append.mp q with q | q
        · exact (in_cut h2 hp (Or.inr (Or.inl rfl)) q).1
        · exact (in_cut h2 hp (Or.inr (Or.inr (Or.inl rfl))) q).1)
    rw [List.length_cons, List.length_append, List.length_append] at h8
    unfold usd lst at hu
    omega
/-! what is so stays so -/
theorem inv_home (ht : t < 4) (hp : p < 16) (h : Inv ρ β S) : Inv ρ β (oHome t p S) := by
  obtain ⟨h1, h2, h3, h4, h5⟩ := h
  refine ⟨?_, ?_, h3, ?_, h5⟩
  · intro p' hp'
    obtain ⟨a1, a2, a3, a4⟩ := h1 p' hp'
    refine ⟨a1, a2, a3, fun e => ?_⟩
    have := a4 e
    simp (disch := omega) only [oHome, bl_wbl, ud_n]
    exact this
  · intro p' hp' b
    have h6 := h2 p' hp' b
    by_cases e : p' = p
    · subst e
      show (b < cut ρ S p' → ct (oHome t p' S) p' b + hd S p' b = 1) ∧ (cut ρ S p' ≤ b → ct (oHome t p' S) p' b = 0)
      have h7 : ct (oHome t p' S) p' b = ct S p' b := by
        rcases (show t = 0 ∨ t = 1 ∨ t = 2 ∨ t = 3 by omega) with rfl | rfl | rfl | rfl <;> simp (disch := omega) only [ct, oHome, bl_wbl, ud_e, ud_n, List.count_append, List.count_nil] <;> omega
      rw [h7]
      exact h6
    · show (b < cut ρ S p' → ct (oHome t p S) p' b + hd S p' b = 1) ∧ (cut ρ S p' ≤ b → ct (oHome t p S) p' b = 0)
      have h7 : ct (oHome t p S) p' b = ct S p' b := by
        simp (disch := omega) only [ct, oHome, bl_wbl, ud_n]
      rw [h7]
      exact h6
  · intro t' p' ht' hp'
    obtain ⟨a1, a2⟩ := h4 t' p' ht' hp'
    simp (disch := omega) only [oHome, bl_wbl]
    by_cases e : 48 + 16 * t' + p' = 48 + 16 * t + p
    · rw [ud_e e]
      exact ⟨Nat.zero_le _, fun _ => rfl⟩
    · rw [ud_n _ _ e, ud_n _ _ (by omega)]
      exact ⟨a1, a2⟩
theorem inv_loc (hp : p < 16) (hb : b < cut ρ S p) (hh : hd S p b = 1) (h : Inv ρ β S) : Inv ρ β (oPush (3 * p + 1) b (oHd p b 0 S)) := by
  obtain ⟨h1, h2, h3, h4, h5⟩ := h
  refine ⟨?_, ?_, h3, ?_, h5⟩
  · intro p' hp'
    obtain ⟨a1, a2, a3, a4⟩ := h1 p' hp'
    refine ⟨a1, a2, a3, fun e => ?_⟩
    have := a4 e
    simp (disch := omega) only [oPush, oHd, kd_wkd, kd_wow, kd_wcl, kd_whd, kd_wbl, kd_wqu, kd_wlv, kd_wgt, kd_wlg, ow_wkd, ow_wow, ow_wcl, ow_whd, ow_wbl, ow_wqu, ow_wlv, ow_wgt, ow_wlg, cl_wkd, cl_wow, cl_wcl, cl_whd, cl_wbl, cl_wqu, cl_wlv, cl_wgt, cl_wlg, hd_wkd, hd_wow, hd_wcl, hd_whd, hd_wbl, hd_wqu, hd_wlv, hd_wgt, hd_wlg, bl_wkd, bl_wow, bl_wcl, bl_whd, bl_wbl, bl_wqu, bl_wlv, bl_wgt, bl_wlg, qu_wkd, qu_wow, qu_wcl, qu_whd, qu_wbl, qu_wqu, qu_wlv, qu_wgt, qu_wlg, lv_wkd, lv_wow, lv_wcl, lv_whd, lv_wbl, lv_wqu, lv_wlv, lv_wgt, lv_wlg, gt_wkd, gt_wow, gt_wcl, gt_whd, gt_wbl, gt_wqu, gt_wlv, gt_wgt, gt_wlg, lg_wkd, lg_wow, lg_wcl, lg_whd, lg_wbl, lg_wqu, lg_wlv, lg_wgt, lg_wlg, ud_n]
    exact this
  · intro p' hp' b'
    have h6 := h2 p' hp' b'
    show (b' < cut ρ S p' → ct (oPush (3 * p + 1) b (oHd p b 0 S)) p' b' + ud (hd S) p (ud (hd S p) b 0) p' b' = 1) ∧ (cut ρ S p' ≤ b' → ct (oPush (3 * p + 1) b (oHd p b 0 S)) p' b' = 0)
    by_cases e : p' = p
    · subst e
      have h7 : ct (oPush (3 * p' + 1) b (oHd p' b 0 S)) p' b' = ct S p' b' + (if b = b' then 1 else 0) := by
        simp (disch := omega) only [ct, oPush, oHd, kd_wkd, kd_wow, kd_wcl, kd_whd, kd_wbl, kd_wqu, kd_wlv, kd_wgt, kd_wlg, ow_wkd, ow_wow, ow_wcl, ow_whd, ow_wbl, ow_wqu, ow_wlv, ow_wgt, ow_wlg, cl_wkd, cl_wow, cl_wcl, cl_whd, cl_wbl, cl_wqu, cl_wlv, cl_wgt, cl_wlg, hd_wkd, hd_wow, hd_wcl, hd_whd, hd_wbl, hd_wqu, hd_wlv, hd_wgt, hd_wlg, bl_wkd, bl_wow, bl_wcl, bl_whd, bl_wbl, bl_wqu, bl_wlv, bl_wgt, bl_wlg, qu_wkd, qu_wow, qu_wcl, qu_whd, qu_wbl, qu_wqu, qu_wlv, qu_wgt, qu_wlg, lv_wkd, lv_wow, lv_wcl, lv_whd, lv_wbl, lv_wqu, lv_wlv, lv_wgt, lv_wlg, gt_wkd, gt_wow, gt_wcl, gt_whd, gt_wbl, gt_wqu, gt_wlv, gt_wgt, gt_wlg, lg_wkd, lg_wow, lg_wcl, lg_whd, lg_wbl, lg_wqu, lg_wlv, lg_wgt, lg_wlg, ud_e, ud_n, List.count_cons, beq_iff_eq]
        omega
      rw [h7, ud_s]
      by_cases eb : b = b'
      · subst eb
        rw [ud_s, if_pos rfl]
        omega
      · rw [ud_n _ _ (Ne.symm eb), if_neg eb]
        exact h6
    · have h7 : ct (oPush (3 * p + 1) b (oHd p b 0 S)) p' b' = ct S p' b' := by
        simp (disch := omega) only [ct, oPush, oHd, kd_wkd, kd_wow, kd_wcl, kd_whd, kd_wbl, kd_wqu, kd_wlv, kd_wgt, kd_wlg, ow_wkd, ow_wow, ow_wcl, ow_whd, ow_wbl, ow_wqu, ow_wlv, ow_wgt, ow_wlg, cl_wkd, cl_wow, cl_wcl, cl_whd, cl_wbl, cl_wqu, cl_wlv, cl_wgt, cl_wlg, hd_wkd, hd_wow, hd_wcl, hd_whd, hd_wbl, hd_wqu, hd_wlv, hd_wgt, hd_wlg, bl_wkd, bl_wow, bl_wcl, bl_whd, bl_wbl, bl_wqu, bl_wlv, bl_wgt, bl_wlg, qu_wkd, qu_wow, qu_wcl, qu_whd, qu_wbl, qu_wqu, qu_wlv, qu_wgt, qu_wlg, lv_wkd, lv_wow, lv_wcl, lv_whd, lv_wbl, lv_wqu, lv_wlv, lv_wgt, lv_wlg, gt_wkd, gt_wow, gt_wcl, gt_whd, gt_wbl, gt_wqu, gt_wlv, gt_wgt, gt_wlg, lg_wkd, lg_wow, lg_wcl, lg_whd, lg_wbl, lg_wqu, lg_wlv, lg_wgt, lg_wlg, ud_n]
      rw [h7, ud_n _ _ e]
      exact h6
  · intro t' p' ht' hp'
    simp (disch := omega) only [oPush, oHd, kd_wkd, kd_wow, kd_wcl, kd_whd, kd_wbl, kd_wqu, kd_wlv, kd_wgt, kd_wlg, ow_wkd, ow_wow, ow_wcl, ow_whd, ow_wbl, ow_wqu, ow_wlv, ow_wgt, ow_wlg, cl_wkd, cl_wow, cl_wcl, cl_whd, cl_wbl, cl_wqu, cl_wlv, cl_wgt, cl_wlg, hd_wkd, hd_wow, hd_wcl, hd_whd, hd_wbl, hd_wqu, hd_wlv, hd_wgt, hd_wlg, bl_wkd, bl_wow, bl_wcl, bl_whd, bl_wbl, bl_wqu, bl_wlv, bl_wgt, bl_wlg, qu_wkd, qu_wow, qu_wcl, qu_whd, qu_wbl, qu_wqu, qu_wlv, qu_wgt, qu_wlg, lv_wkd, lv_wow, lv_wcl, lv_whd, lv_wbl, lv_wqu, lv_wlv, lv_wgt, lv_wlg, gt_wkd, gt_wow, gt_wcl, gt_whd, gt_wbl, gt_wqu, gt_wlv, gt_wgt, gt_wlg, lg_wkd, lg_wow, lg_wcl, lg_whd, lg_wbl, lg_wqu, lg_wlv, lg_wgt, lg_wlg, ud_n]
    exact h4 t' p' ht' hp'
theorem inv_box (ht : t < rT ρ) (hT : rT ρ ≤ 4) (hp : p < 16) (hl : (bl S (48 + 16 * t + p)).length < 9) (hb : b < cut ρ S p) (hh : hd S p b = 1) (h : Inv ρ β S) : Inv ρ β (oPush (48 + 16 * t + p) b (oHd p b 0 S)) := by
  obtain ⟨h1, h2, h3, h4, h5⟩ := h
  refine ⟨?_, ?_, h3, ?_, h5⟩
  · intro p' hp'
    obtain ⟨a1, a2, a3, a4⟩ := h1 p' hp'
    refine ⟨a1, a2, a3, fun e => ?_⟩
    have := a4 e
    simp (disch := omega) only [oPush, oHd, kd_wkd, kd_wow, kd_wcl, kd_whd, kd_wbl, kd_wqu, kd_wlv, kd_wgt, kd_wlg, ow_wkd, ow_wow, ow_wcl, ow_whd, ow_wbl, ow_wqu, ow_wlv, ow_wgt, ow_wlg, cl_wkd, cl_wow, cl_wcl, cl_whd, cl_wbl, cl_wqu, cl_wlv, cl_wgt, cl_wlg, hd_wkd, hd_wow, hd_wcl, hd_whd, hd_wbl, hd_wqu, hd_wlv, hd_wgt, hd_wlg, bl_wkd, bl_wow, bl_wcl, bl_whd, bl_wbl, bl_wqu, bl_wlv, bl_wgt, bl_wlg, qu_wkd, qu_wow, qu_wcl, qu_whd, qu_wbl, qu_wqu, qu_wlv, qu_wgt, qu_wlg, lv_wkd, lv_wow, lv_wcl, lv_whd, lv_wbl, lv_wqu, lv_wlv, lv_wgt, lv_wlg, gt_wkd, gt_wow, gt_wcl, gt_whd, gt_wbl, gt_wqu, gt_wlv, gt_wgt, gt_wlg, lg_wkd, lg_wow, lg_wcl, lg_whd, lg_wbl, lg_wqu, lg_wlv, lg_wgt, lg_wlg, ud_n]
    exact this
  · intro p' hp' b'
    have h6 := h2 p' hp' b'
    show (b' < cut ρ S p' → ct (oPush (48 + 16 * t + p) b (oHd p b 0 S)) p' b' + ud (hd S) p (ud (hd S p) b 0) p' b' = 1) ∧ (cut ρ S p' ≤ b' → ct (oPush (48 + 16 * t + p) b (oHd p b 0 S)) p' b' = 0)
    by_cases e : p' = p
    · subst e
      have h7 : ct (oPush (48 + 16 * t + p') b (oHd p' b 0 S)) p' b' = ct S p' b' + (if b = b' then 1 else 0) := by
        rcases (show t = 0 ∨ t = 1 ∨ t = 2 ∨ t = 3 by omega) with rfl | rfl | rfl | rfl <;> simp (disch := omega) only [ct, oPush, oHd, kd_wkd, kd_wow, kd_wcl, kd_whd, kd_wbl, kd_wqu, kd_wlv, kd_wgt, kd_wlg, ow_wkd, ow_wow, ow_wcl, ow_whd, ow_wbl, ow_wqu, ow_wlv, ow_wgt, ow_wlg, cl_wkd, cl_wow, cl_wcl, cl_whd, cl_wbl, cl_wqu, cl_wlv, cl_wgt, cl_wlg, hd_wkd, hd_wow, hd_wcl, hd_whd, hd_wbl, hd_wqu, hd_wlv, hd_wgt, hd_wlg, bl_wkd, bl_wow, bl_wcl, bl_whd, bl_wbl, bl_wqu, bl_wlv, bl_wgt, bl_wlg, qu_wkd, qu_wow, qu_wcl, qu_whd, qu_wbl, qu_wqu, qu_wlv, qu_wgt, qu_wlg, lv_wkd, lv_wow, lv_wcl, lv_whd, lv_wbl, lv_wqu, lv_wlv, lv_wgt, lv_wlg, gt_wkd, gt_wow, gt_wcl, gt_whd, gt_wbl, gt_wqu, gt_wlv, gt_wgt, gt_wlg, lg_wkd, lg_wow, lg_wcl, lg_whd, lg_wbl, lg_wqu, lg_wlv, lg_wgt, lg_wlg, ud_e, ud_n, List.count_cons, beq_iff_eq] <;> omega
      rw [h7, ud_s]
      by_cases eb : b = b'
      · subst eb
        rw [ud_s, if_pos rfl]
        omega
      · rw [ud_n _ _ (Ne.symm eb), if_neg eb]
        exact h6
    · have h7 : ct (oPush (48 + 16 * t + p) b (oHd p b 0 S)) p' b' = ct S p' b' := by
        simp (disch := omega) only [ct, oPush, oHd, kd_wkd, kd_wow, kd_wcl, kd_whd, kd_wbl, kd_wqu, kd_wlv, kd_wgt, kd_wlg, ow_wkd, ow_wow, ow_wcl, ow_whd, ow_wbl, ow_wqu, ow_wlv, ow_wgt, ow_wlg, cl_wkd, cl_wow, cl_wcl, cl_whd, cl_wbl, cl_wqu, cl_wlv, cl_wgt, cl_wlg, hd_wkd, hd_wow, hd_wcl, hd_whd, hd_wbl, hd_wqu, hd_wlv, hd_wgt, hd_wlg, bl_wkd, bl_wow, bl_wcl, bl_whd, bl_wbl, bl_wqu, bl_wlv, bl_wgt, bl_wlg, qu_wkd, qu_wow, qu_wcl, qu_whd, qu_wbl, qu_wqu, qu_wlv, qu_wgt, qu_wlg, lv_wkd, lv_wow, lv_wcl, lv_whd, lv_wbl, lv_wqu, lv_wlv, lv_wgt, lv_wlg, gt_wkd, gt_wow, gt_wcl, gt_whd, gt_wbl, gt_wqu, gt_wlv, gt_wgt, gt_wlg, lg_wkd, lg_wow, lg_wcl, lg_whd, lg_wbl, lg_wqu, lg_wlv, lg_wgt, lg_wlg, ud_n]
      rw [h7, ud_n _ _ e]
      exact h6
  · intro t' p' ht' hp'
    have h6 := h4 t' p' ht' hp'
    simp only [oPush, oHd, kd_wkd, kd_wow, kd_wcl, kd_whd, kd_wbl, kd_wqu, kd_wlv, kd_wgt, kd_wlg, ow_wkd, ow_wow, ow_wcl, ow_whd, ow_wbl, ow_wqu, ow_wlv, ow_wgt, ow_wlg, cl_wkd, cl_wow, cl_wcl, cl_whd, cl_wbl, cl_wqu, cl_wlv, cl_wgt, cl_wlg, hd_wkd, hd_wow, hd_wcl, hd_whd, hd_wbl, hd_wqu, hd_wlv, hd_wgt, hd_wlg, bl_wkd, bl_wow, bl_wcl, bl_whd, bl_wbl, bl_wqu, bl_wlv, bl_wgt, bl_wlg, qu_wkd, qu_wow, qu_wcl, qu_whd, qu_wbl, qu_wqu, qu_wlv, qu_wgt, qu_wlg, lv_wkd, lv_wow, lv_wcl, lv_whd, lv_wbl, lv_wqu, lv_wlv, lv_wgt, lv_wlg, gt_wkd, gt_wow, gt_wcl, gt_whd, gt_wbl, gt_wqu, gt_wlv, gt_wgt, gt_wlg, lg_wkd, lg_wow, lg_wcl, lg_whd, lg_wbl, lg_wqu, lg_wlv, lg_wgt, lg_wlg]
    by_cases e : 48 + 16 * t' + p' = 48 + 16 * t + p
    · rw [ud_e e]
      obtain ⟨rfl, rfl⟩ : t' = t ∧ p' = p := by omega
      exact ⟨by rw [List.length_cons]; omega, fun q => by omega⟩
    · rw [ud_n _ _ e]
      exact h6
end AC
