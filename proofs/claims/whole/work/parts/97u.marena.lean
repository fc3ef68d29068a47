/-! READING: the reference's loop over clauses answers rdL -/
section RB2
variable {M M1 M2 : Mem} {l : List Nat} {a p : Nat} {w : Int32}
theorem mIt_S (lk : LOK l) (H : MS M) (h : RdM M l a mI) (ha : a ≤ l.length) : ∃ M', fM_items 1003 (nI 115) 1005 (nI 0) (nI 5) M = some M' ∧ FJ 1005 0 5 M M' ∧ ((∃ p f', itL 0 loS hiS l 6 a 0 usS = .inl (p, f') ∧ RdM M' l p mI ∧ p ≤ l.length ∧ ∀ j, j < 5 → giM M' 1005 (0 + j) = nI (f' j)) ∨ (∃ p j, itL 0 loS hiS l 6 a 0 usS = .inr (.inl p) ∧ p ≤ l.length ∧ RdM M' l p mI ∧ (l[p]?).bind (tix 0) = some j) ∨ ∃ e p', itL 0 loS hiS l 6 a 0 usS = .inr (.inr e) ∧ e ≤ 240 ∧ RdM M' l p' (nI e)) :=
  mIt (i := 0) (tg := 1005) (o := 0) (nT := 5) (many := 5) (lo := loS) (hi := hiS) (us := usS) lk (fun M b => it_S lk M b) (fun c j e => tx_b (by decide) e) (Or.inr rfl) (Or.inl ⟨rfl, fun _ => rfl⟩) (fun M => hi_S M) (fun M => us_S M) (by decide) (by omega) (by omega) (by omega) (by omega) H (ms_a5 H) h ha
theorem mIt_C {o : Nat} (lk : LOK l) (H : MS M) (h : RdM M l a mI) (ha : a ≤ l.length) (ho : o < 6) : ∃ M', fM_items 1003 (nI 99) 1006 (nI o) (nI 1) M = some M' ∧ FJ 1006 o 1 M M' ∧ ((∃ p f', itL 1 (fun _ => 1) (fun _ => 40) l 2 a 0 (fun _ => 1) = .inl (p, f') ∧ RdM M' l p mI ∧ p ≤ l.length ∧ ∀ j, j < 1 → giM M' 1006 (o + j) = nI (f' j)) ∨ (∃ p j, itL 1 (fun _ => 1) (fun _ => 40) l 2 a 0 (fun _ => 1) = .inr (.inl p) ∧ p ≤ l.length ∧ RdM M' l p mI ∧ (l[p]?).bind (tix 1) = some j) ∨ ∃ e p', itL 1 (fun _ => 1) (fun _ => 40) l 2 a 0 (fun _ => 1) = .inr (.inr e) ∧ e ≤ 240 ∧ RdM M' l p' (nI e)) :=
  mIt (i := 1) (tg := 1006) (o := o) (nT := 6) (many := 1) (lo := fun _ => 1) (hi := fun _ => 40) (us := fun _ => 1) lk (fun M b => it_C lk M b) (fun c j e => tx_b (by decide) e) (Or.inl rfl) (Or.inr ⟨rfl, fun _ => rfl⟩) (fun M j hj => rfl) (fun M j hj => rfl) (fun j _ => ⟨by omega, by omega⟩) (by omega) (by omega) (by omega) (by omega) H (ms_a6 H) h ha
theorem mar_loop (lk : LOK l) : ∀ n fu M a sd f k z, l.length < a + n → n < fu → MS M → RdM M l a mI → a ≤ l.length → RGm M f k z → (sd = false → f = usS) → ∃ M', LM_readArena_44 (fu + 1) 1003 (bI sd) (nI 1) M = some M' ∧ FB M M' ∧ RRm l (rdL l n a sd f k z) M' := by
  intro n
  have ll := lk.1
  induction n with
  | zero => intro fu M a sd f k z h1 h2 H h ha; omega
  | succ n ih =>
    intro fu M a sd f k z h1 h2 H h ha gg hf
    obtain ⟨g, rfl⟩ : ∃ g, fu = g + 1 := ⟨fu - 1, by omega⟩
    have hsk := skp_ge (l := l) a
    have hs32 := skp_no (l := l) a
    have hsl := skp_le (l := l) ha
    obtain ⟨M1, k1, F1, r1⟩ := ah_ok lk H h ha
    have H1 : MS M1 := MS_2 F1.1 H
    have g1 := RGm_RP gg F1
    rw [rdL_s]
    have hA : ∀ c, l[skp l a]? = some c → skp l a < l.length ∧ chL l (skp l a) = nI c := fun c hc => by
      refine ⟨?_, ?_⟩
      · rcases Nat.lt_or_ge (skp l a) l.length with h1 | h1
        · exact h1
        · rw [List.getElem?_eq_none h1] at hc
          cases hc
      · unfold chL
        rw [hc]
        rfl
    have hB : ∀ c, c < 256 → chL l (skp l a) = nI c → l[skp l a]? = some c := fun c hc e => by
      rcases Nat.lt_or_ge (skp l a) l.length with hb | hb
      · rw [chL_lt hb] at e
        have := lk.2 _ (List.getElem_mem hb)
        rw [List.getElem?_eq_getElem hb, n_inj (b := c) (by omega) (by omega) e]
      · rw [chL_ge hb] at e
        have e2 := n_eqm' (a := c) (show c < 2147483648 by omega)
        exact absurd e (of_eq_false e2)
    generalize hb : skp l a = b at *
    have e44 : LM_readArena_44 (g + 1 + 1) 1003 (bI sd) (nI 1) M = if chL l b = 115 then (if bI sd = 0 then (gd (obM M1 1003 11 34) <| gd (decide (grM M1 1003 5 ≠ 0)) <| (fM_items 1003 (chL l b) (grM M1 1003 5) 0 5 (siM M1 1003 3 ((giM M1 1003 3) + 1))).bind fun q5 => BM_readArena_153 (LM_readArena_44 (g + 1)) 1003 1 q5) else (BM_readArena_97 (LM_readArena_44 (g + 1)) 1003 (bI sd) (chL l b) M1)) else (BM_readArena_97 (LM_readArena_44 (g + 1)) 1003 (bI sd) (chL l b) M1) := by
      show BM_readArena_44 (LM_readArena_44 (g + 1)) 1003 (bI sd) (nI 1) M = _
      unfold BM_readArena_44
      rw [if_neg (show ¬ nI 1 = 0 by decide), ms_ob H, gd1n, h.2.2, if_pos (show mI = -1 from rfl), k1, bs1n]
    rw [e44]
    have d5 : decide (grM M1 1003 5 ≠ 0) = true := by rw [ms_g5 H1]; decide
    have d6 : decide (grM M1 1003 6 ≠ 0) = true := by rw [ms_g6 H1]; decide
    have e1 : giM M1 1003 3 + 1 = nI (b + 1) := by rw [r1.2.1, l_1, n_add]
    have H2 : MS (siM M1 1003 3 (nI (b + 1))) := MS_2 rfl H1
    have r2 := RdM_1 r1 (b + 1)
    have F2 : RP M (siM M1 1003 3 (nI (b + 1))) := RP_tr F1 (RP_3 _)
    have g2 := RGm_RP gg F2
    by_cases hs : l[b]? = some 115 ∧ sd = false
    · rw [if_pos hs]
      obtain ⟨hs, rfl⟩ := hs
      obtain rfl := hf rfl
      obtain ⟨hbl, hch⟩ := hA 115 hs
      obtain ⟨M3, k3, F3, hh⟩ := mIt_S lk H2 r2 (by omega)
      have k3 : fM_items 1003 (nI 115) 1005 0 5 (siM M1 1003 3 (nI (b + 1))) = some M3 := k3
      have H3 : MS M3 := MS_2 F3.1 H2
      rw [hch, if_pos (show nI 115 = 115 from rfl), if_pos (show bI false = 0 from rfl), ms_ob H1, gd1n, d5, gd1n, ms_g5 H1, e1, k3, bs1n]
      have fb : FB M M3 := FB_tr (FB_RP F2) (FB_5 F3)
      rcases hh with ⟨p, f', q1, q2, q3, q4⟩ | ⟨p, j, q1, q2, q3, q4⟩ | ⟨e, p', q1, q2, q3⟩
      · rw [q1]
        have mo := it_mono q1
        have hsk2 := skp_ge (l := l) p
        have g3 : RGm M3 f' k z := ⟨g2.1, by rw [F3.2.2.1 7 (by omega) (by omega)]; exact g2.2.1, q4, fun j hj => by rw [F3.2.1 1006 (by omega) (by omega)]; exact g2.2.2.2 j hj⟩
        obtain ⟨M', k4, F4', q⟩ := ma_after (v1 := nI 1) (go := fun b => rdL l n b true f' k z) (g := g) lk H3 q2 q3 g3 (fun M2 A2 r2 i2 g2 => ih g M2 (skp l p + 1) true f' k z (by omega) (by omega) A2 r2 i2 g2 (fun h => by cases h))
        exact ⟨M', k4, FB_tr fb F4', q⟩
      · rw [q1]
        obtain ⟨M', k4, F4', q⟩ := ma_dup (g := g) (v1 := nI 1) lk H3 q3 q2 (Or.inl rfl) q4
        exact ⟨M', k4, FB_tr fb (FB_RP F4'), q⟩
      · rw [q1]
        obtain ⟨M', k4, F4', q⟩ := ma_w (g := g) (v1 := nI 1) q2 H3 q3
        exact ⟨M', k4, FB_tr fb (FB_RP F4'), q2, Or.inl ⟨p', q⟩⟩
    · rw [if_neg hs]
      have e97 : (if chL l b = 115 then (if bI sd = 0 then (gd (obM M1 1003 11 34) <| gd (decide (grM M1 1003 5 ≠ 0)) <| (fM_items 1003 (chL l b) (grM M1 1003 5) 0 5 (siM M1 1003 3 ((giM M1 1003 3) + 1))).bind fun q5 => BM_readArena_153 (LM_readArena_44 (g + 1)) 1003 1 q5) else (BM_readArena_97 (LM_readArena_44 (g + 1)) 1003 (bI sd) (chL l b) M1)) else (BM_readArena_97 (LM_readArena_44 (g + 1)) 1003 (bI sd) (chL l b) M1)) = BM_readArena_97 (LM_readArena_44 (g + 1)) 1003 (bI sd) (chL l b) M1 := by
        by_cases c1 : chL l b = 115
        · have c2 : ¬ bI sd = 0 := by
            cases sd with
            | false => exact absurd ⟨hB 115 (by omega) c1, rfl⟩ hs
            | true => decide
          rw [if_pos c1, if_neg c2]
        · rw [if_neg c1]
      rw [e97]
      by_cases hc : l[b]? = some 99 ∧ k < 6
      · rw [if_pos hc]
        obtain ⟨hc, hk⟩ := hc
        obtain ⟨hbl, hch⟩ := hA 99 hc
        obtain ⟨M3, k3, F3, hh⟩ := mIt_C (o := k) lk H2 r2 (by omega) hk
        have k3 : fM_items 1003 (nI 99) 1006 (nI k) 1 (siM M1 1003 3 (nI (b + 1))) = some M3 := k3
        have H3 : MS M3 := MS_2 F3.1 H2
        have t7 : giM M3 1003 7 = nI k := by rw [F3.2.2.1 7 (by omega) (by omega)]; exact g2.2.1
        have H4 : MS (siM M3 1003 7 (nI (k + 1))) := MS_2 rfl H3
        have eq97 : BM_readArena_97 (LM_readArena_44 (g + 1)) 1003 (bI sd) (chL l b) M1 = BM_readArena_153 (LM_readArena_44 (g + 1)) 1003 (bI sd) (siM M3 1003 7 (nI (k + 1))) := by
          unfold BM_readArena_97
          rw [hch, if_pos (show nI 99 = 99 from rfl), ms_ob H1, gd1n, g1.2.1, if_neg (show ¬ (6 : Int32) ≤ nI k from of_eq_false (n_leF (a := 6) (b := k) (by omega) (by omega))), d6, gd1n, e1, ms_g6 H1, g2.2.1, k3, bs1n, ms_ob H3, gd1n, t7, l_1, n_add]
        rw [eq97]
        have fb : FB M (siM M3 1003 7 (nI (k + 1))) := FB_tr (FB_RP F2) (FB_tr (FB_6 F3) (FB_7 _))
        have up : ∀ {b' w'}, RdM M3 l b' w' → RdM (siM M3 1003 7 (nI (k + 1))) l b' w' := fun r => ⟨TPm_cg r.1 (by rw [giM_ud, ud_n _ _ (by omega)]) (giM_un (by omega)), by rw [giM_ud, ud_n _ _ (by omega)]; exact r.2.1, by rw [giM_ud, ud_n _ _ (by omega)]; exact r.2.2⟩
        rcases hh with ⟨p, f', q1, q2, q3, q4⟩ | ⟨p, j, q1, q2, q3, q4⟩ | ⟨e, p', q1, q2, q3⟩
        · rw [q1]
          have mo := it_mono q1
          have hsk2 := skp_ge (l := l) p
          have g3 : RGm (siM M3 1003 7 (nI (k + 1))) f (k + 1) (ud z k (f' 0)) := ⟨by omega, by rw [giM_ud, ud_s], fun j hj => by rw [giM_un (by omega), F3.2.1 1005 (by omega) (by omega)]; exact g2.2.2.1 j hj, fun j hj => by
            rw [giM_un (by omega), ud_at]
            by_cases ej : j = k
            · rw [if_pos ej, ej]; exact q4 0 (by omega)
            · rw [if_neg ej, F3.2.2.2 j (by omega)]
              exact g2.2.2.2 j (by omega)⟩
          obtain ⟨M', k4, F4', q⟩ := ma_after (v1 := bI sd) (go := fun b => rdL l n b sd f (k + 1) (ud z k (f' 0))) (g := g) lk H4 (up q2) q3 g3 (fun M2 A2 r2 i2 g2 => ih g M2 (skp l p + 1) sd f (k + 1) (ud z k (f' 0)) (by omega) (by omega) A2 r2 i2 g2 hf)
          exact ⟨M', k4, FB_tr fb F4', q⟩
        · rw [q1]
          obtain ⟨M', k4, F4', q⟩ := ma_dup (g := g) (v1 := bI sd) lk H4 (up q3) q2 (Or.inr rfl) q4
          exact ⟨M', k4, FB_tr fb (FB_RP F4'), q⟩
        · rw [q1]
          obtain ⟨M', k4, F4', q⟩ := ma_w (g := g) (v1 := bI sd) q2 H4 (up q3)
          exact ⟨M', k4, FB_tr fb (FB_RP F4'), q2, Or.inl ⟨p', q⟩⟩
      · rw [if_neg hc]
        have b1 := bad_ok H1 r1
        have r3 := RdM_2 r1 (nI b)
        obtain ⟨M', k4, F4', q⟩ := ma_w (M := siM M1 1003 4 (nI b)) (g := g) (v1 := bI sd) (show b ≤ 240 by omega) (MS_2 rfl H1) r3
        refine ⟨M', ?_, FB_tr (FB_RP (RP_tr F1 (RP_4 _))) (FB_RP F4'), by omega, Or.inl ⟨b, q⟩⟩
        have e149 : BM_readArena_149 (LM_readArena_44 (g + 1)) 1003 (bI sd) M1 = some M' := by
          unfold BM_readArena_149
          rw [ms_ob H1, gd1n, b1, bs1n]
          exact k4
        unfold BM_readArena_97
        by_cases c1 : chL l b = 99
        · have h6 : k = 6 := by
            have := gg.1
            rcases Nat.lt_or_ge k 6 with h6 | h6
            · exact absurd ⟨hB 99 (by omega) c1, h6⟩ hc
            · omega
          rw [if_pos c1, ms_ob H1, gd1n, g1.2.1, h6, if_pos (show (6 : Int32) ≤ nI 6 by decide)]
          exact e149
        · rw [if_neg c1]
          exact e149
end RB2
