/-! READING: an arena, the reference -/
section RB
variable {M M1 M2 : Mem} {l : List Nat} {a p : Nat} {w : Int32}
def FB (M M' : Mem) : Prop := M'.2 = M.2 ∧ (∀ x, x ≠ 1003 → x ≠ 1005 → x ≠ 1006 → giM M' x = giM M x) ∧ ∀ k, k ≠ 3 → k ≠ 4 → k ≠ 7 → giM M' 1003 k = giM M 1003 k
theorem FB_refl (M : Mem) : FB M M := ⟨rfl, fun _ _ _ _ => rfl, fun _ _ _ _ => rfl⟩
theorem FB_tr (h : FB M M1) (g : FB M1 M2) : FB M M2 := ⟨g.1.trans h.1, fun x h1 h2 h3 => (g.2.1 x h1 h2 h3).trans (h.2.1 x h1 h2 h3), fun k h1 h2 h3 => (g.2.2 k h1 h2 h3).trans (h.2.2 k h1 h2 h3)⟩
theorem FB_RP (r : RP M M1) : FB M M1 := ⟨r.1, fun x h1 _ _ => r.2.1 x h1, fun k h1 h2 _ => r.2.2 k h1 h2⟩
theorem FB_5 {o m : Nat} (F : FJ 1005 o m M M1) : FB M M1 := ⟨F.1, fun x h1 h2 _ => F.2.1 x h1 h2, fun k h1 h2 _ => F.2.2.1 k h1 h2⟩
theorem FB_6 {o m : Nat} (F : FJ 1006 o m M M1) : FB M M1 := ⟨F.1, fun x h1 _ h3 => F.2.1 x h1 h3, fun k h1 h2 _ => F.2.2.1 k h1 h2⟩
theorem FB_7 (z : Int32) : FB M (siM M 1003 7 z) := ⟨rfl, fun x h1 _ _ => giM_un h1, fun k _ _ h => by rw [giM_ud, ud_n _ _ h]⟩
def RGm (M : Mem) (f : Nat → Nat) (k : Nat) (z : Nat → Nat) : Prop := k ≤ 6 ∧ giM M 1003 7 = nI k ∧ (∀ j, j < 5 → giM M 1005 (0 + j) = nI (f j)) ∧ ∀ j, j < k → giM M 1006 j = nI (z j)
theorem RGm_RP {f z : Nat → Nat} {k : Nat} (h : RGm M f k z) (r : RP M M1) : RGm M1 f k z := by
  unfold RGm
  rw [r.2.2 7 (by omega) (by omega), r.2.1 1005 (by omega), r.2.1 1006 (by omega)]
  exact h
def RRm (l : List Nat) (x : ArR) (M : Mem) : Prop := match x with
  | .inl (p, f, k, z) => RdM M l p mI ∧ p ≤ l.length ∧ l[p]? = none ∧ RGm M f k z
  | .inr e => e ≤ 240 ∧ ((∃ p', RdM M l p' (nI e)) ∨ (RdM M l e mI ∧ e ≤ l.length ∧ l[e]? ≠ none ∧ l[e]? ≠ some 32))
theorem ne_m1 {e : Nat} (he : e ≤ 240) : ¬ nI e = -1 := of_eq_false (n_eqm (show e < 2147483648 by omega))
theorem ma190 {g : Nat} {v1 : Int32} {w2 : Nat} (H : MS M) (h : RdM M l p w) : BM_readArena_190 (LM_readArena_44 (g + 1)) 1003 v1 (nI 0) 1003 (giM M 1003 3) (nI 0) M = some (siM M 1003 3 (nI p)) := by
  unfold BM_readArena_190
  rw [ms_ob H, gd1n, h.2.1, n_add, Nat.add_zero]
  show BM_readArena_44 (LM_readArena_44 g) 1003 v1 (nI 0) (siM M 1003 3 (nI p)) = _
  unfold BM_readArena_44
  rw [if_pos (show nI 0 = 0 from rfl)]
theorem ma174 {g : Nat} {v1 : Int32} (H : MS M) (h : RdM M l p w) : BM_readArena_174 (LM_readArena_44 (g + 1)) 1003 v1 M = some (siM M 1003 3 (nI p)) := by
  unfold BM_readArena_174 BM_readArena_175
  rw [ms_ob H, gd1n, if_pos (show (0 : Int32) = 0 from rfl)]
  exact ma190 (w2 := 0) H h
theorem RdM_3s (h : RdM M l p w) : RdM (siM M 1003 3 (nI p)) l p w := RdM_1 h p
theorem ma_w {g e : Nat} {v1 : Int32} (he : e ≤ 240) (H : MS M) (h : RdM M l p (nI e)) : ∃ M', BM_readArena_153 (LM_readArena_44 (g + 1)) 1003 v1 M = some M' ∧ RP M M' ∧ RdM M' l p (nI e) := by
  refine ⟨_, ?_, RP_3 (nI p), RdM_3s h⟩
  unfold BM_readArena_153
  rw [ms_ob H, gd1n, h.2.2, if_neg (ne_m1 he)]
  exact ma174 H h
theorem ma_stop {g : Nat} {v1 : Int32} (lk : LOK l) (H : MS M) (h : RdM M l p mI) (hp : p ≤ l.length) (hc : l[skp l p]? ≠ some 59) : ∃ M', BM_readArena_153 (LM_readArena_44 (g + 1)) 1003 v1 M = some M' ∧ RP M M' ∧ RdM M' l (skp l p) mI := by
  obtain ⟨M1, k1, F1, r1⟩ := ah_ok lk H h hp
  have H1 : MS M1 := MS_2 F1.1 H
  generalize skp l p = b at k1 r1 hc
  refine ⟨_, ?_, RP_tr F1 (RP_3 (nI b)), RdM_3s r1⟩
  have hne : ¬ chL l b = 59 := fun e => by
    rcases Nat.lt_or_ge b l.length with hb | hb
    · rw [chL_lt hb] at e
      have := lk.2 _ (List.getElem_mem hb)
      exact hc (by rw [List.getElem?_eq_getElem hb, n_inj (b := 59) (by omega) (by omega) e])
    · rw [chL_ge hb] at e
      exact absurd e (by decide)
  unfold BM_readArena_153
  rw [ms_ob H, gd1n, h.2.2, if_pos (show mI = -1 from rfl), k1, bs1n, if_neg (show ¬ ((chL l b, M1) : Int32 × Mem).1 = 59 from hne)]
  exact ma174 H1 r1
theorem ma_after {g k : Nat} {f z : Nat → Nat} {v1 : Int32} {go : Nat → ArR} (lk : LOK l) (H : MS M) (h : RdM M l p mI) (hp : p ≤ l.length) (gg : RGm M f k z) (ih : ∀ M2, MS M2 → RdM M2 l (skp l p + 1) mI → skp l p + 1 ≤ l.length → RGm M2 f k z → ∃ M', LM_readArena_44 (g + 1) 1003 v1 (nI 1) M2 = some M' ∧ FB M2 M' ∧ RRm l (go (skp l p + 1)) M') : ∃ M', BM_readArena_153 (LM_readArena_44 (g + 1)) 1003 v1 M = some M' ∧ FB M M' ∧ RRm l (nxA l p f k z go) M' := by
  have ll := lk.1
  have hsp := skp_le (l := l) hp
  by_cases hc : l[skp l p]? = some 59
  · rw [nxA_s hc]
    obtain ⟨M1, k1, F1, r1⟩ := ah_ok lk H h hp
    have H1 : MS M1 := MS_2 F1.1 H
    generalize skp l p = b at k1 r1 hc ih hsp
    have hb : b < l.length := by
      rcases Nat.lt_or_ge b l.length with h1 | h1
      · exact h1
      · rw [List.getElem?_eq_none h1] at hc
        cases hc
    have e : chL l b = nI 59 := by
      unfold chL
      rw [hc]
      rfl
    rw [e] at k1
    obtain ⟨M', k2, F2, q⟩ := ih (siM M1 1003 3 (nI (b + 1))) (MS_2 rfl H1) (RdM_1 r1 (b + 1)) (by omega) (RGm_RP gg (RP_tr F1 (RP_3 _)))
    refine ⟨M', ?_, FB_tr (FB_RP (RP_tr F1 (RP_3 _))) F2, q⟩
    unfold BM_readArena_153 BM_readArena_175 BM_readArena_190
    rw [ms_ob H, gd1n, h.2.2, if_pos (show mI = -1 from rfl), k1, bs1n, if_pos (show ((nI 59, M1) : Int32 × Mem).1 = 59 from rfl), ms_ob H1, gd1n, if_neg (show ¬ (1 : Int32) = 0 by decide), gd1n, r1.2.1, l_1, n_add]
    exact k2
  · obtain ⟨M', k1, F1, r1⟩ := ma_stop (g := g) (v1 := v1) lk H h hp hc
    refine ⟨M', k1, FB_RP F1, ?_⟩
    have s32 : l[skp l p]? ≠ some 32 := skp_no p
    cases hd : l[skp l p]? with
    | none =>
      rw [nxA_n hd]
      exact ⟨r1, hsp, hd, RGm_RP gg F1⟩
    | some c =>
      rw [nxA_f hd (fun e => hc (by rw [hd, e]))]
      exact ⟨by omega, Or.inr ⟨r1, hsp, by rw [hd]; exact fun h => (by cases h), s32⟩⟩
theorem ma_dup {g i j e : Nat} {v1 : Int32} (lk : LOK l) (H : MS M) (h : RdM M l e mI) (he : e ≤ l.length) (hi : i = 0 ∨ i = 1) (hj : (l[e]?).bind (tix i) = some j) : ∃ M', BM_readArena_153 (LM_readArena_44 (g + 1)) 1003 v1 M = some M' ∧ RP M M' ∧ RRm l (.inr e) M' := by
  have ll := lk.1
  have hb : e < l.length := by
    rcases Nat.lt_or_ge e l.length with h1 | h1
    · exact h1
    · rw [List.getElem?_eq_none h1] at hj
      cases hj
  have n32 : l[e]? ≠ some 32 := fun x => by
    rw [x, bs1n] at hj
    rcases hi with rfl | rfl
    · rw [tix_0 32 (by omega)] at hj
      exact (by simp at hj)
    · rw [tix_1 32 (by omega)] at hj
      exact (by simp at hj)
  have n59 : l[e]? ≠ some 59 := fun x => by
    rw [x, bs1n] at hj
    rcases hi with rfl | rfl
    · rw [tix_0 59 (by omega)] at hj
      exact (by simp at hj)
    · rw [tix_1 59 (by omega)] at hj
      exact (by simp at hj)
  have es : skp l e = e := skp_F n32
  obtain ⟨M', k1, F1, r1⟩ := ma_stop (g := g) (v1 := v1) lk H h he (by rw [es]; exact n59)
  rw [es] at r1
  exact ⟨M', k1, F1, by omega, Or.inr ⟨r1, he, by rw [List.getElem?_eq_getElem hb]; exact fun h => (by cases h), n32⟩⟩
end RB
