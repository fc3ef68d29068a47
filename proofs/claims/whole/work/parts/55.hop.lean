/-! THE CLASS: what acts do to a heap -/
theorem ChM_Fr {M M' : Mem} {lo hi c n1 n2 : Nat} {Ls : Nat → List Nat} (F : Fr M M' lo hi) (hc : c + 4 < lo ∨ hi < c + 1) (h : ChM M c Ls n1 n2) : ChM M' c Ls n1 n2 := by
  unfold ChM
  rw [F.2 (c + 1) (by omega), F.2 (c + 2) (by omega), F.2 (c + 3) (by omega), F.2 (c + 4) (by omega)]
  exact h
theorem pl_3 {p w : Nat} (hp : p < 16) (hw : w < 3) : pl (3 * p + w) = p := by
  unfold pl
  rw [if_pos (by omega)]
  omega
theorem pl_30 {p : Nat} (hp : p < 16) : pl (3 * p) = p := pl_3 (w := 0) hp (by omega)
theorem pl_b {p t : Nat} (hp : p < 16) : pl (48 + 16 * t + p) = p := by
  unfold pl
  rw [if_neg (by omega)]
  omega
theorem pl_of {k p : Nat} (hk : k < 112) (h : pl k = p) : k = 3 * p ∨ k = 3 * p + 1 ∨ k = 3 * p + 2 ∨ k = 48 + 16 * 0 + p ∨ k = 48 + 16 * 1 + p ∨ k = 48 + 16 * 2 + p ∨ k = 48 + 16 * 3 + p := by
  unfold pl at h
  by_cases h1 : k < 48
  · rw [if_pos h1] at h; omega
  · rw [if_neg h1] at h; omega
theorem pl_lt {k : Nat} (hk : k < 112) : pl k < 16 := by
  unfold pl
  by_cases h1 : k < 48
  · rw [if_pos h1]; omega
  · rw [if_neg h1]; omega
section CO
variable {M : Mem} {h : Nat} {ρ : Rul} {β : Nat} {S : HSt} {p t b l q : Nat}
theorem LT_mem {k x : Nat} : x ∈ LT S k ↔ ∃ b, b ∈ bl S k ∧ 40 * pl k + b = x := by
  unfold LT
  rw [List.mem_map]
theorem in_pl (V : Inv ρ β S) {k : Nat} (hk : k < 112) (hb : b ∈ bl S k) : b < cut ρ S (pl k) ∧ hd S (pl k) b = 0 := in_cut V.2.1 (pl_lt hk) (pl_of hk rfl) hb
theorem LT_mem' (hR : RuOK ρ) (V : Inv ρ β S) {k : Nat} (hk : k < 112) (hb : b < 40) : 40 * p + b ∈ LT S k ↔ pl k = p ∧ b ∈ bl S k := by
  rw [LT_mem]
  constructor
  · rintro ⟨b', h1, h2⟩
    have h3 := (in_pl V hk h1).1
    have h4 := cut_le hR V.1 (pl_lt hk)
    obtain ⟨rfl, rfl⟩ : pl k = p ∧ b' = b := by omega
    exact ⟨rfl, h1⟩
  · rintro ⟨rfl, h1⟩
    exact ⟨b, h1, rfl⟩
/-- a held block is in no list -/
theorem held_no (hR : RuOK ρ) (V : Inv ρ β S) (hp : p < 16) (hb : b < cut ρ S p) (hh : hd S p b = 1) {k : Nat} (hk : k < 112) : 40 * p + b ∉ LT S k := by
  have h4 := cut_le hR V.1 hp
  intro q
  obtain ⟨rfl, h1⟩ := (LT_mem' hR V hk (by omega)).mp q
  have := (in_pl V hk h1).2
  omega
theorem LT_ud {S' : HSt} {xs : List Nat} (e : bl S' = ud (bl S) l xs) (k : Nat) : LT S' k = ud (LT S) l (xs.map (40 * pl l + ·)) k := by
  unfold LT
  rw [e]
  by_cases ek : k = l
  · subst ek; rw [ud_s, ud_s]
  · rw [ud_n _ _ ek, ud_n _ _ ek]
/-- the lists of blocks have changed -/
theorem cc_bl {M' : Mem} {S' : HSt} (C : CC M h ρ β S) (F : Fr M M' (h + 10) (h + 13)) (e : kd S' = kd S ∧ ow S' = ow S ∧ cl S' = cl S ∧ qu S' = qu S ∧ lv S' = lv S ∧ gt S' = gt S ∧ lg S' = lg S) (hL : ChM M' (h + 9) (LT S') 112 640) (hh : ∀ p b, p < 16 → b < cut ρ S p → hd S' p b = 1 → giM M' (h + 13) (40 * p + b) = mI) : CC M' h ρ β S' := by
  obtain ⟨H, R, hR, C1, C2, C3, C4, C5, C6⟩ := C
  obtain ⟨e1, e2, e3, e4, e5, e6, e7⟩ := e
  have hb := hs_b H
  refine ⟨HS_2 F.1 H, RuC_Fr R F (by omega), hR, ?_, ?_, hL, ?_, ?_, ?_⟩
  · intro p hp
    rw [F.2 (h + 1) (by omega), F.2 (h + 2) (by omega), F.2 (h + 3) (by omega), F.2 (h + 8) (by omega)]
    unfold kI oI cut
    rw [e1, e2, e3]
    exact C1 p hp
  · rw [e4]
    exact ChM_Fr F (by omega) C2
  · intro p b hp hb hd
    unfold cut at hb
    rw [e1, e3] at hb
    exact hh p b hp hb hd
  · rw [F.2 (h + 14) (by omega), F.2 (h + 15) (by omega), e5, e6]
    exact C5
  · rw [F.2 (h + 16) (by omega), F.2 (h + 17) (by omega), e7]
    exact C6
theorem cPush (C : CC M h ρ β S) (V : Inv ρ β S) (hl : l < 112) (hpl : pl l = p) (hb : b < cut ρ S p) (hh : hd S p b = 1) : ∃ M', fC_push (h + 9) (nI l) (nI (40 * p + b)) M = some M' ∧ Fr M M' (h + 10) (h + 13) ∧ CC M' h ρ β (oPush l b (oHd p b 0 S)) := by
  have hp : p < 16 := hpl ▸ pl_lt hl
  have hR := C.2.2.1
  have hc := cut_le hR V.1 hp
  obtain ⟨M', e, F, hL, hx⟩ := push_ok (hs_k C.1) (cv_L C) hl (t := 40 * p + b) (by omega) (fun k hk => held_no hR V hp hb hh hk)
  refine ⟨M', e, F, cc_bl C F ⟨rfl, rfl, rfl, rfl, rfl, rfl, rfl⟩ ?_ ?_⟩
  · refine ch_eq hL (fun k hk => ?_)
    rw [LT_ud (S := S) (l := l) (xs := b :: bl S l) rfl, List.map_cons, hpl]
    unfold LT
    rw [hpl]
  · intro p' b' hp' hb' hd'
    have hd2 : ud (hd S) p (ud (hd S p) b 0) p' b' = 1 := hd'
    by_cases ep : p' = p
    · subst ep
      rw [ud_s] at hd2
      by_cases eb : b' = b
      · subst eb; rw [ud_s] at hd2; omega
      · rw [ud_n _ _ eb] at hd2
        exact (hx _ (by omega)).trans (cv_hd C hp' hb' hd2)
    · rw [ud_n _ _ ep] at hd2
      have := cut_le hR V.1 hp'
      exact (hx _ (by omega)).trans (cv_hd C hp' hb' hd2)
theorem cMove {l' : Nat} (C : CC M h ρ β S) (V : Inv ρ β S) (hl : l < 112) (hl' : l' < 112) (hne : l ≠ l') (hpl : pl l = pl l') : ∃ M', fC_moveAhead (h + 9) (nI l) (nI l') M = some M' ∧ Fr M M' (h + 10) (h + 13) ∧ CC M' h ρ β (oMove l l' S) := by
  have hR := C.2.2.1
  obtain ⟨M', e, F, hL, hx⟩ := move_ok (hs_k C.1) (cv_L C) hl hl' hne
  refine ⟨M', e, F, cc_bl C F ⟨rfl, rfl, rfl, rfl, rfl, rfl, rfl⟩ ?_ ?_⟩
  · refine ch_eq hL (fun k hk => ?_)
    show List.map (40 * pl k + ·) (ud (ud (bl S) l' (bl S l ++ bl S l')) l [] k) = _
    by_cases ek : k = l
    · subst ek; rw [ud_s, ud_s]; rfl
    · rw [ud_n _ _ ek, ud_n _ _ ek]
      by_cases ek2 : k = l'
      · subst ek2
        rw [ud_s, ud_s, List.map_append]
        unfold LT
        rw [hpl]
      · rw [ud_n _ _ ek2, ud_n _ _ ek2]
        rfl
  · intro p' b' hp' hb' hd'
    exact (hx _ (held_no hR V hp' hb' hd' hl)).trans (cv_hd C hp' hb' hd')
theorem cTake {r : List Nat} (C : CC M h ρ β S) (V : Inv ρ β S) (hp : p < 16) (e : bl S (3 * p) = b :: r) : ∃ M', fC_pop (h + 9) (nI (3 * p)) M = some (nI (40 * p + b), M') ∧ Fr M M' (h + 10) (h + 13) ∧ CC M' h ρ β (oTake p S) := by
  have hR := C.2.2.1
  have hc := cut_le hR V.1 hp
  have hb := (in_cut V.2.1 hp (Or.inl rfl) (b := b) (by rw [e]; exact List.mem_cons_self)).1
  have e2 : LT S (3 * p) = (40 * p + b) :: r.map (40 * p + ·) := by
    unfold LT
    rw [e, pl_30 hp]
    rfl
  obtain ⟨M', e1, F, hL, ht, hx⟩ := pop_ok (hs_k C.1) (cv_L C) (l := 3 * p) (by omega) e2
  have eq : oTake p S = oHd p b 1 (wbl S (ud (bl S) (3 * p) r)) := by
    unfold oTake
    rw [e]
    rfl
  rw [eq]
  refine ⟨M', e1, F, cc_bl C F ⟨rfl, rfl, rfl, rfl, rfl, rfl, rfl⟩ ?_ ?_⟩
  · refine ch_eq hL (fun k hk => ?_)
    rw [LT_ud (S := S) (l := 3 * p) (xs := r) rfl, pl_30 hp]
  · intro p' b' hp' hb' hd'
    have hd2 : ud (hd S) p (ud (hd S p) b 1) p' b' = 1 := hd'
    have hc' := cut_le hR V.1 hp'
    by_cases ep : p' = p
    · subst ep
      rw [ud_s] at hd2
      by_cases eb : b' = b
      · subst eb; exact ht
      · rw [ud_n _ _ eb] at hd2
        exact (hx _ (by omega)).trans (cv_hd C hp' hb' hd2)
    · rw [ud_n _ _ ep] at hd2
      exact (hx _ (by omega)).trans (cv_hd C hp' hb' hd2)
/-- pages and queues have changed, no page has other blocks -/
theorem cc_qu {M' : Mem} {S' : HSt} (C : CC M h ρ β S) (F : Fr M M' (h + 1) (h + 8)) (e : hd S' = hd S ∧ bl S' = bl S ∧ lv S' = lv S ∧ gt S' = gt S ∧ lg S' = lg S) (hc : ∀ p, p < 16 → cut ρ S' p = cut ρ S p) (hP : ∀ p, p < 16 → giM M' (h + 1) p = kI S' p ∧ giM M' (h + 2) p = oI S' p ∧ giM M' (h + 3) p = nI (cut ρ S p) ∧ (kd S' p ≠ 1 → giM M' (h + 8) p = mI)) (hQ : ChM M' (h + 4) (qu S') 24 16) : CC M' h ρ β S' := by
  obtain ⟨H, R, hR, C1, C2, C3, C4, C5, C6⟩ := C
  obtain ⟨e1, e2, e3, e4, e5⟩ := e
  have hb := hs_b H
  refine ⟨HS_2 F.1 H, RuC_Fr R F (by omega), hR, ?_, hQ, ?_, ?_, ?_, ?_⟩
  · intro p hp
    rw [hc p hp]
    exact hP p hp
  · have e6 : LT S' = LT S := by unfold LT; rw [e2]
    rw [e6]
    exact ChM_Fr F (by omega) C3
  · intro p b hp hb hd
    rw [hc p hp] at hb
    rw [F.2 (h + 13) (by omega)]
    rw [e1] at hd
    exact C4 p b hp hb hd
  · rw [F.2 (h + 14) (by omega), F.2 (h + 15) (by omega), e3, e4]
    exact C5
  · rw [F.2 (h + 16) (by omega), F.2 (h + 17) (by omega), e5]
    exact C6
end CO
