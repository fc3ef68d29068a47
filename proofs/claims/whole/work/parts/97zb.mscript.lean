/-! READING: a script, the reference -/
section MV
variable {M M1 M2 : Mem} {l : List Nat} {a p s w n : Nat}
def FTm (n : Nat) (M M' : Mem) : Prop := M'.2 = M.2 ∧ (∀ x, x ≠ 1003 → x ≠ 1009 → x ≠ 1010 → giM M' x = giM M x) ∧ (∀ k, k ≠ 3 → k ≠ 4 → k ≠ 14 → giM M' 1003 k = giM M 1003 k) ∧ (∀ j, j < 72 * n ∨ 72 * n + 72 ≤ j → giM M' 1009 j = giM M 1009 j) ∧ ∀ j, j ≠ n → giM M' 1010 j = giM M 1010 j
theorem FTm_tr (h : FTm n M M1) (g : FTm n M1 M2) : FTm n M M2 := ⟨g.1.trans h.1, fun x h1 h2 h3 => (g.2.1 x h1 h2 h3).trans (h.2.1 x h1 h2 h3), fun k h1 h2 h3 => (g.2.2.1 k h1 h2 h3).trans (h.2.2.1 k h1 h2 h3), fun j hj => (g.2.2.2.1 j hj).trans (h.2.2.2.1 j hj), fun j hj => (g.2.2.2.2 j hj).trans (h.2.2.2.2 j hj)⟩
theorem FTm_refl (n : Nat) (M : Mem) : FTm n M M := ⟨rfl, fun _ _ _ _ => rfl, fun _ _ _ _ => rfl, fun _ _ => rfl, fun _ _ => rfl⟩
theorem FTm_RP (F : RP M M1) : FTm n M M1 := ⟨F.1, fun x h1 _ _ => F.2.1 x h1, fun k h1 h2 _ => F.2.2 k h1 h2, fun j _ => by rw [F.2.1 1009 (by omega)], fun j _ => by rw [F.2.1 1010 (by omega)]⟩
theorem FTm_S {i : Nat} (hi : i < 24) (F : FSm (3 * (24 * n + i)) M M1) : FTm n M M1 := ⟨F.1, fun x h1 h2 _ => F.2.1 x h1 h2, fun k h1 h2 h3 => F.2.2.1 k h1 h2 h3, fun j hj => F.2.2.2 j (by omega), fun j _ => by rw [F.2.1 1010 (by omega) (by omega)]⟩
theorem FTm_14 (z : Int32) : FTm n M (siM M 1003 14 z) := ⟨rfl, fun x h1 _ _ => giM_un h1, fun k _ _ h => by rw [giM_ud, ud_n _ _ h], fun j _ => by rw [giM_un (by omega)], fun j _ => by rw [giM_un (by omega)]⟩
theorem FTm_10 (z : Int32) : FTm n M (siM M 1010 n z) := ⟨rfl, fun x _ _ h => giM_un h, fun k _ _ _ => by rw [giM_un (by omega)], fun j _ => by rw [giM_un (by omega)], fun j hj => by rw [giM_ud, ud_n _ _ hj]⟩
theorem RdM_10 {b j : Nat} {v z : Int32} (h : RdM M l b v) : RdM (siM M 1010 j z) l b v := RdM_si h (by omega) (by omega)
def SGm (M : Mem) (n i : Nat) (g : Nat → StT) : Prop := ∀ j, j < i → STm M (3 * (24 * n + j)) (g j)
theorem SGm_9 {i : Nat} {g : Nat → StT} (h : SGm M n i g) (e : giM M1 1009 = giM M 1009) : SGm M1 n i g := fun j hj => by
  unfold STm
  rw [e]
  exact h j hj
theorem SGm_S {i : Nat} {g : Nat → StT} {t : StT} (h : SGm M n i g) (F : FSm (3 * (24 * n + i)) M M1) (q : STm M1 (3 * (24 * n + i)) t) : SGm M1 n (i + 1) (ud g i t) := fun j hj => by
  rw [ud_at]
  by_cases e : j = i
  · rw [if_pos e, e]; exact q
  · rw [if_neg e]
    have := h j (by omega)
    exact ⟨(F.2.2.2 _ (by omega)).trans this.1, (F.2.2.2 _ (by omega)).trans this.2.1, (F.2.2.2 _ (by omega)).trans this.2.2⟩
def RSOm (l : List Nat) (n : Nat) (x : (Nat × (Nat → StT)) ⊕ Nat) (M : Mem) : Prop := match x with
  | .inl (st, g) => (∃ p, p ≤ l.length ∧ l[p]? = none ∧ RdM M l p mI) ∧ giM M 1003 14 = nI 0 ∧ SGm M n st g ∧ giM M 1010 n = nI st
  | .inr e => e ≤ 240 ∧ ((∃ p', RdM M l p' (nI e)) ∨ (RdM M l e mI ∧ e ≤ l.length ∧ l[e]? ≠ some 32 ∧ (l[e]? ≠ none ∨ ∃ s, 0 < s ∧ s ≤ 7 ∧ giM M 1003 14 = nI s)))
theorem ms87 {b g : Nat} {v : Int32} (H : MS M) (h : RdM M l b v) : BM_readScript_87 (LM_readScript_24 (g + 1)) 1003 (nI n) M = some (siM M 1003 3 (nI b)) := by
  unfold BM_readScript_87 BM_readScript_88 BM_readScript_103
  rw [ms_ob H, gd1n, if_pos (show (0 : Int32) = 0 from rfl), gd1n, h.2.1, l_0, n_add, Nat.add_zero]
  show BM_readScript_24 (LM_readScript_24 g) 1003 (nI n) (nI 0) (siM M 1003 3 (nI b)) = _
  unfold BM_readScript_24
  rw [if_pos (show nI 0 = 0 from rfl)]
theorem ms_loop (lk : LOK l) (hn : n ≤ 4) : ∀ d fu M i a s g, i + d = 24 → d < fu → MS M → RdM M l a mI → a ≤ l.length → i < 24 → s ≤ 6 → giM M 1003 14 = nI s → giM M 1010 n = nI i → SGm M n i g → ∃ M', LM_readScript_24 (fu + 1) 1003 (nI n) (nI 1) M = some M' ∧ FTm n M M' ∧ RSOm l n (scL l d i a s g) M' := by
  intro d
  have ll := lk.1
  induction d with
  | zero => intro fu M i a s g h1 h2 H h ha hi; omega
  | succ d ih =>
    intro fu M i a s g h1 h2 H h ha hi hs h14 h10 gg
    obtain ⟨gf, rfl⟩ : ∃ g, fu = g + 1 := ⟨fu - 1, by omega⟩
    obtain ⟨M1, k1, F1, q⟩ := srMl (o := 3 * (24 * n + i)) lk H h ha (by omega) hs h14
    have H1 : MS M1 := MS_2 F1.1 H
    have f10 : giM M1 1010 n = nI i := by rw [F1.2.1 1010 (by omega) (by omega)]; exact h10
    have H2 : MS (siM M1 1010 n (nI (i + 1))) := MS_2 rfl H1
    have eA : 3 * (24 * nI n + nI i) = nI (3 * (24 * n + i)) := by rw [l_3, l_24, n_mul, n_add, n_mul]
    have e24 : LM_readScript_24 (gf + 1 + 1) 1003 (nI n) (nI 1) M = if giM (siM M1 1010 n (nI (i + 1))) 1003 4 = -1 then ((fM_ahead 1003 (siM M1 1010 n (nI (i + 1)))).bind fun q9 => if q9.1 = 59 then (gd (obM q9.2 1003 11 34) <| gd (decide (grM q9.2 1003 12 ≠ 0)) <| gd (rdI q9.2 (grM q9.2 1003 12) (nI n)) <| if 24 ≤ (giM q9.2 (grM q9.2 1003 12) (Int32.toNatClampNeg (nI n))) then (BM_readScript_87 (LM_readScript_24 (gf + 1)) 1003 (nI n) q9.2) else (BM_readScript_88 (LM_readScript_24 (gf + 1)) 1003 (nI n) 1 q9.2)) else (BM_readScript_87 (LM_readScript_24 (gf + 1)) 1003 (nI n) q9.2)) else (BM_readScript_87 (LM_readScript_24 (gf + 1)) 1003 (nI n) (siM M1 1010 n (nI (i + 1)))) := by
      show BM_readScript_24 (LM_readScript_24 (gf + 1)) 1003 (nI n) (nI 1) M = _
      unfold BM_readScript_24
      rw [if_neg (show ¬ nI 1 = 0 by decide), ms_ob H, gd1n, ms_g12 H, d_nz (by omega), gd1n, ms_r12 H (show n < 5 by omega), gd1n, n_cl (a := n) (by omega), h10, eA, k1, bs1n, ms_ob H1, gd1n, ms_g12 H1, d_nz (by omega), gd1n, ms_r12 H1 (show n < 5 by omega), gd1n, ms_w12 H1 (show n < 5 by omega), gd1n, f10, show nI i + 1 = nI (i + 1) from by rw [l_1, n_add]]
    rw [e24, scL_s]
    cases hx : spR l a s with
    | inr e =>
      rw [hx] at q
      obtain ⟨he, p', r1⟩ := q
      have r2 : RdM (siM M1 1010 n (nI (i + 1))) l p' (nI e) := RdM_10 r1
      rw [r2.2.2, if_neg (ne_m1 he), ms87 H2 r2]
      exact ⟨_, rfl, FTm_tr (FTm_S hi F1) (FTm_tr (FTm_10 _) (FTm_RP (RP_3 _))), he, Or.inl ⟨p', RdM_3s r2⟩⟩
    | inl x =>
      obtain ⟨p, t⟩ := x
      rw [hx] at q
      obtain ⟨r1, hp, st, g14⟩ := q
      obtain ⟨tk, t5, t6⟩ := spR_rg lk hx
      have hs' := scp_le t5 hs
      have g1 := SGm_S gg F1 st
      have r2 : RdM (siM M1 1010 n (nI (i + 1))) l p mI := RdM_10 r1
      have g2 : SGm (siM M1 1010 n (nI (i + 1))) n (i + 1) (ud g i t) := SGm_9 g1 (giM_un (by omega))
      have m14 : giM (siM M1 1010 n (nI (i + 1))) 1003 14 = nI (scp t.1 s) := by rw [giM_un (by omega)]; exact g14
      have m10 : giM (siM M1 1010 n (nI (i + 1))) 1010 n = nI (i + 1) := by rw [giM_ud, ud_s]
      obtain ⟨M3, k3, F3, r3⟩ := ah_ok lk H2 r2 hp
      have hsl := skp_le (l := l) hp
      have s32 := skp_no (l := l) p
      have H3 : MS M3 := MS_2 F3.1 H2
      have g3 : SGm M3 n (i + 1) (ud g i t) := SGm_9 g2 (F3.2.1 1009 (by omega))
      have p14 : giM M3 1003 14 = nI (scp t.1 s) := by rw [F3.2.2 14 (by omega) (by omega)]; exact m14
      have p10 : giM M3 1010 n = nI (i + 1) := by rw [F3.2.1 1010 (by omega)]; exact m10
      have FF : FTm n M M3 := FTm_tr (FTm_S hi F1) (FTm_tr (FTm_10 _) (FTm_RP F3))
      rw [r2.2.2, if_pos (show mI = -1 from rfl), k3, bs1n]
      show ∃ M', (if chL l (skp l p) = 59 then (gd (obM M3 1003 11 34) <| gd (decide (grM M3 1003 12 ≠ 0)) <| gd (rdI M3 (grM M3 1003 12) (nI n)) <| if 24 ≤ (giM M3 (grM M3 1003 12) (Int32.toNatClampNeg (nI n))) then (BM_readScript_87 (LM_readScript_24 (gf + 1)) 1003 (nI n) M3) else (BM_readScript_88 (LM_readScript_24 (gf + 1)) 1003 (nI n) 1 M3)) else (BM_readScript_87 (LM_readScript_24 (gf + 1)) 1003 (nI n) M3)) = some M' ∧ FTm n M M' ∧ RSOm l n (if l[skp l p]? = none then (if scp t.1 s = 0 then .inl (i + 1, ud g i t) else .inr (skp l p)) else if l[skp l p]? = some 59 ∧ i + 1 < 24 then scL l d (i + 1) (skp l p + 1) (scp t.1 s) (ud g i t) else .inr (skp l p)) M'
      generalize hb : skp l p = b at *
      have e87 := ms87 (n := n) (g := gf) H3 r3
      have r4 : RdM (siM M3 1003 3 (nI b)) l b mI := RdM_3s r3
      have F4' : FTm n M (siM M3 1003 3 (nI b)) := FTm_tr FF (FTm_RP (RP_3 _))
      have g4 : SGm (siM M3 1003 3 (nI b)) n (i + 1) (ud g i t) := SGm_9 g3 (giM_un (by omega))
      have u14 : giM (siM M3 1003 3 (nI b)) 1003 14 = nI (scp t.1 s) := by rw [giM_ud, ud_n _ _ (by omega)]; exact p14
      have u10 : giM (siM M3 1003 3 (nI b)) 1010 n = nI (i + 1) := by rw [giM_un (by omega)]; exact p10
      rw [ms_ob H3, gd1n, ms_g12 H3, d_nz (by omega), gd1n, ms_r12 H3 (show n < 5 by omega), gd1n, n_cl (a := n) (by omega), p10, e87]
      cases hd : l[b]? with
      | none =>
        have ec : chL l b = mI := by
          unfold chL
          rw [hd]
          rfl
        rw [ec, if_neg (show ¬ mI = 59 by decide), if_pos rfl]
        refine ⟨_, rfl, F4', ?_⟩
        by_cases h0 : scp t.1 s = 0
        · rw [if_pos h0]
          exact ⟨⟨b, hsl, hd, r4⟩, by rw [u14, h0], g4, u10⟩
        · rw [if_neg h0]
          exact ⟨by omega, Or.inr ⟨r4, hsl, s32, Or.inr ⟨scp t.1 s, by omega, by omega, u14⟩⟩⟩
      | some c =>
        have hbl : b < l.length := by
          rcases Nat.lt_or_ge b l.length with h1 | h1
          · exact h1
          · rw [List.getElem?_eq_none h1] at hd
            cases hd
        have hcl : c ≤ 255 := by
          rw [List.getElem?_eq_getElem hbl] at hd
          have := lk.2 _ (List.getElem_mem hbl)
          have := Option.some.inj hd
          omega
        have ec : chL l b = nI c := by
          unfold chL
          rw [hd]
          rfl
        have nn : l[b]? ≠ none := by rw [hd]; exact fun h => (by cases h)
        rw [ec, if_neg (show ¬ some c = none from fun h => by cases h)]
        by_cases h59 : c = 59
        · rw [if_pos (show nI c = 59 by rw [h59]; rfl)]
          by_cases h24 : i + 1 < 24
          · rw [if_neg (show ¬ 24 ≤ nI (i + 1) from of_eq_false (n_leF (a := 24) (b := i + 1) (by omega) (by omega))), if_pos (show some c = some 59 ∧ i + 1 < 24 from ⟨by rw [h59], h24⟩)]
            obtain ⟨M', k5, F5, q5⟩ := ih gf (siM M3 1003 3 (nI (b + 1))) (i + 1) (b + 1) (scp t.1 s) (ud g i t) (by omega) (by omega) (MS_2 rfl H3) (RdM_1 r3 (b + 1)) (by omega) h24 hs' (by rw [giM_ud, ud_n _ _ (by omega)]; exact p14) (by rw [giM_un (by omega)]; exact p10) (SGm_9 g3 (giM_un (by omega)))
            refine ⟨M', ?_, FTm_tr FF (FTm_tr (FTm_RP (RP_3 _)) F5), q5⟩
            unfold BM_readScript_88 BM_readScript_103
            rw [ms_ob H3, gd1n, if_neg (show ¬ (1 : Int32) = 0 by decide), gd1n, r3.2.1, show nI b + 1 = nI (b + 1) from by rw [l_1, n_add]]
            exact k5
          · rw [if_pos (show 24 ≤ nI (i + 1) from of_eq_true (n_leT (a := 24) (b := i + 1) (by omega) (by omega))), if_neg (show ¬ (some c = some 59 ∧ i + 1 < 24) from fun h => h24 h.2)]
            exact ⟨_, rfl, F4', by omega, Or.inr ⟨r4, hsl, s32, Or.inl nn⟩⟩
        · rw [if_neg (show ¬ nI c = 59 from fun e => h59 (n_inj (b := 59) (by omega) (by omega) e)), if_neg (show ¬ (some c = some 59 ∧ i + 1 < 24) from fun h => h59 (Option.some.inj h.1))]
          exact ⟨_, rfl, F4', by omega, Or.inr ⟨r4, hsl, s32, Or.inl nn⟩⟩
theorem msc_ok (lk : LOK l) (hn : n ≤ 4) (H : MS M) (h : TPm M l) : ∃ v M', fM_readScript 1003 (nI n) M = some (v, M') ∧ FTm n M M' ∧ TPm M' l ∧ ANT l v (fun st g => SGm M' n st g ∧ giM M' 1010 n = nI st) := by
  have ll := lk.1
  have X : FTm n M (siM (siM (siM (siM M 1003 3 (nI 0)) 1003 4 mI) 1010 n (nI 0)) 1003 14 (nI 0)) := FTm_tr (FTm_RP (RP_tr (RP_3 _) (RP_4 _))) (FTm_tr (FTm_10 _) (FTm_14 _))
  have y3 : giM (siM (siM (siM (siM M 1003 3 (nI 0)) 1003 4 mI) 1010 n (nI 0)) 1003 14 (nI 0)) 1003 3 = nI 0 := by rw [giM_ud, ud_n _ _ (by omega), giM_un (by omega), giM_ud, ud_n _ _ (by omega), giM_ud, ud_s]
  have y4 : giM (siM (siM (siM (siM M 1003 3 (nI 0)) 1003 4 mI) 1010 n (nI 0)) 1003 14 (nI 0)) 1003 4 = mI := by rw [giM_ud, ud_n _ _ (by omega), giM_un (by omega), giM_ud, ud_s]
  have y10 : giM (siM (siM (siM (siM M 1003 3 (nI 0)) 1003 4 mI) 1010 n (nI 0)) 1003 14 (nI 0)) 1010 n = nI 0 := by rw [giM_un (by omega), giM_ud, ud_s]
  have y14 : giM (siM (siM (siM (siM M 1003 3 (nI 0)) 1003 4 mI) 1010 n (nI 0)) 1003 14 (nI 0)) 1003 14 = nI 0 := by rw [giM_ud, ud_s]
  have t1 : TPm (siM (siM (siM (siM M 1003 3 (nI 0)) 1003 4 mI) 1010 n (nI 0)) 1003 14 (nI 0)) l := TPm_cg h (X.2.2.1 2 (by omega) (by omega) (by omega)) (X.2.1 1004 (by omega) (by omega) (by omega))
  have H1 : MS (siM (siM (siM (siM M 1003 3 (nI 0)) 1003 4 mI) 1010 n (nI 0)) 1003 14 (nI 0)) := MS_2 X.1 H
  obtain ⟨M2, k2, F2, q⟩ := ms_loop lk hn 24 999999 _ 0 0 0 (fun _ => (0, 0, 0)) (by omega) (by omega) H1 ⟨t1, y3, y4⟩ (by omega) (by omega) (by omega) y14 y10 (fun j hj => by omega)
  have k2 : LM_readScript_24 1000000 1003 (nI n) 1 (siM (siM (siM (siM M 1003 3 0) 1003 4 (-1)) 1010 n 0) 1003 14 0) = some M2 := k2
  have H2 : MS M2 := MS_2 F2.1 H1
  unfold fM_readScript
  rw [ms_ob H, gd1n, ms_g12 H, d_nz (by omega), gd1n, ms_w12 H (show n < 5 by omega), gd1n, n_cl (a := n) (by omega), k2, bs1n, ms_ob H2, gd1n]
  unfold ANT BM_readScript_133 BM_readScript_137
  have FF : FTm n M M2 := FTm_tr X F2
  cases hx : scL l 24 0 0 0 (fun _ => (0, 0, 0)) with
  | inl x =>
    obtain ⟨st, g⟩ := x
    rw [hx] at q
    obtain ⟨⟨p, p1, p2, r2⟩, q14, qg, q10⟩ := q
    obtain ⟨M3, k3, F3, r3⟩ := ah_ok lk H2 r2 p1
    have es : skp l p = p := skp_F (by rw [p2]; exact fun h => (by cases h))
    have ec : chL l p = mI := by
      unfold chL
      rw [p2]
      rfl
    rw [es] at r3 k3
    rw [ec] at k3
    have H3 : MS M3 := MS_2 F3.1 H2
    have e14 : giM M3 1003 14 = nI 0 := by rw [F3.2.2 14 (by omega) (by omega)]; exact q14
    refine ⟨mI, M3, ?_, FTm_tr FF (FTm_RP F3), r3.1, rfl, SGm_9 qg (F3.2.1 1009 (by omega)), by rw [F3.2.1 1010 (by omega)]; exact q10⟩
    rw [r2.2.2, if_pos (show mI = -1 from rfl), k3, bs1n, if_pos (show ((mI, M3) : Int32 × Mem).1 = -1 from rfl), ms_ob H3, gd1n, e14, if_pos (show nI 0 ≤ 0 by decide), gd1n, r3.2.2]
  | inr e =>
    rw [hx] at q
    obtain ⟨he, ⟨p', r2⟩ | ⟨r2, i2, i3, hh⟩⟩ := q
    · refine ⟨nI e, M2, ?_, FF, r2.1, rfl, he⟩
      rw [r2.2.2, if_neg (ne_m1 he), ms_ob H2, gd1n]
    · obtain ⟨M3, k3, F3, r3⟩ := ah_ok lk H2 r2 i2
      have es : skp l e = e := skp_F i3
      rw [es] at r3 k3
      have H3 : MS M3 := MS_2 F3.1 H2
      have b1 := bad_ok H3 r3
      have H4 : MS (siM M3 1003 4 (nI e)) := MS_2 rfl H3
      have r4 := RdM_2 r3 (nI e)
      refine ⟨nI e, siM M3 1003 4 (nI e), ?_, FTm_tr FF (FTm_RP (RP_tr F3 (RP_4 _))), r4.1, rfl, he⟩
      rw [r2.2.2, if_pos (show mI = -1 from rfl), k3, bs1n]
      by_cases hc : ((chL l e, M3) : Int32 × Mem).1 = -1
      · rw [if_pos hc]
        rcases hh with hh | ⟨s, s1, s2, s3⟩
        · exfalso
          have hb : e < l.length := by
            rcases Nat.lt_or_ge e l.length with h1 | h1
            · exact h1
            · exact absurd (List.getElem?_eq_none h1) hh
          have hcc := lk.2 _ (List.getElem_mem hb)
          have hc : chL l e = -1 := hc
          rw [chL_lt hb] at hc
          exact absurd hc (of_eq_false (n_eqm (show l[e] < 2147483648 by omega)))
        · have e14 : giM M3 1003 14 = nI s := by rw [F3.2.2 14 (by omega) (by omega)]; exact s3
          rw [ms_ob H3, gd1n, e14, if_neg (show ¬ nI s ≤ 0 from of_eq_false (n_leF (a := s) (b := 0) (by omega) (by omega))), gd1n, b1, bs1n, ms_ob H4, gd1n, r4.2.2]
      · rw [if_neg hc, ms_ob H3, gd1n, b1, bs1n, ms_ob H4, gd1n, r4.2.2]
theorem ant_eq {v v' : Int32} {P P' : Nat → (Nat → StT) → Prop} (h : ANT l v P) (g : ANT l v' P') : v = v' ∧ ((v = mI ∧ ∃ st gg, scL l 24 0 0 0 (fun _ => (0, 0, 0)) = .inl (st, gg) ∧ P st gg ∧ P' st gg) ∨ ¬ v = -1) := by
  unfold ANT at h g
  split at h
  · next st gg hx =>
    rw [hx] at g
    exact ⟨by rw [h.1, g.1], Or.inl ⟨h.1, st, gg, hx, h.2, g.2⟩⟩
  · next e hx =>
    rw [hx] at g
    exact ⟨by rw [h.1, g.1], Or.inr (by rw [h.1]; exact ne_m1 h.2)⟩
end MV
