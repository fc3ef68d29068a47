/-! READING: the reference's readArena -/
section RB3
variable {M M1 M2 : Mem} {l : List Nat} {a p : Nat} {w : Int32}
theorem u19 : ∀ d k f M, k + d = 5 → d < f → MS M → (∀ j, j < k → giM M 1005 (0 + j) = nI (usS j)) → ∃ M', LM_readArena_19 f 1003 (nI 0) (nI k) M = some M' ∧ FJ 1005 0 5 M M' ∧ giM M' 1003 = giM M 1003 ∧ ∀ j, j < 5 → giM M' 1005 (0 + j) = nI (usS j) := by
  intro d
  induction d with
  | zero =>
    intro k f M hk hf H hv
    obtain ⟨g, rfl⟩ : ∃ g, f = g + 1 := ⟨f - 1, by omega⟩
    refine ⟨M, ?_, FJ_refl _ _ _ _, rfl, fun j hj => hv j (by omega)⟩
    show BM_readArena_19 (LM_readArena_19 g) 1003 (nI 0) (nI k) M = some M
    unfold BM_readArena_19
    rw [if_pos (show (5 : Int32) ≤ nI k from of_eq_true (n_leT (a := 5) (b := k) (by omega) (by omega)))]
  | succ d ih =>
    intro k f M hk hf H hv
    obtain ⟨g, rfl⟩ : ∃ g, f = g + 1 := ⟨f - 1, by omega⟩
    have f1 : FJ 1005 0 5 M (siM M 1005 k (nI (usS k))) := FJ_si (by omega) (by omega) (by omega)
    obtain ⟨M', k1, F, e3, hv'⟩ := ih (k + 1) g (siM M 1005 k (nI (usS k))) (by omega) (by omega) (MS_2 rfl H) (fun j hj => by
      rw [giM_ud, ud_at]
      by_cases e : j = k
      · rw [if_pos (by omega), e]
      · rw [if_neg (by omega)]
        exact hv j (by omega))
    refine ⟨M', ?_, FJ_tr f1 F, by rw [e3, giM_un (by omega)], hv'⟩
    have d5 : decide (grM M 1003 5 ≠ 0) = true := by rw [ms_g5 H]; decide
    have hu : fM_usual 115 (nI k) M = some (nI (usS k), M) := us_S M k (by omega)
    show BM_readArena_19 (LM_readArena_19 g) 1003 (nI 0) (nI k) M = some M'
    unfold BM_readArena_19
    rw [if_neg (show ¬ (5 : Int32) ≤ nI k from of_eq_false (n_leF (a := 5) (b := k) (by omega) (by omega))), ms_ob H, gd1n, d5, gd1n, hu, bs1n, ms_g5 H, ar_wr (ms_a5 H) (show k < 5 by omega), gd1n, l_1, n_add, n_cl (by omega)]
    exact k1
theorem ma197 {x : ArR} (H : MS M) (h : RRm l x M) (lk : LOK l) (hx : x = rdL l (l.length + 1) 0 false usS 0 (fun _ => 0)) : ∃ v M', BM_readArena_197 1003 M = some (v, M') ∧ RP M M' ∧ TPm M' l ∧ ANS l v (RGm M') := by
  have ll := lk.1
  unfold ANS
  rw [← hx]
  rcases x with ⟨p, f, k, z⟩ | e
  · obtain ⟨r, i1, i2, g⟩ := h
    obtain ⟨k6, fr, zr⟩ := rd_rg hx.symm (by omega) us_rg (fun j hj => by omega)
    obtain ⟨M1, k1, F1, r1⟩ := ah_ok lk H r i1
    have es : skp l p = p := skp_F (by rw [i2]; exact fun h => (by cases h))
    have ec : chL l p = mI := by
      unfold chL
      rw [i2]
      rfl
    rw [es] at r1 k1
    rw [ec] at k1
    have H1 : MS M1 := MS_2 F1.1 H
    have g1 := RGm_RP g F1
    rcases iw_ok (z := z) (u := f 2) H1 k6 g1.2.1 (fun j hj => ⟨g1.2.2.2 j hj, by have := zr j hj; omega⟩) (g1.2.2.1 2 (by omega)) (u2_lt fr) with ⟨hw, e1⟩ | ⟨hw, e1⟩
    · refine ⟨mI, M1, ?_, F1, r1.1, Or.inl ⟨hw, rfl, g1⟩⟩
      unfold BM_readArena_197 BM_readArena_224
      rw [ms_ob H, gd1n, r.2.2, if_pos (show mI = -1 from rfl), k1, bs1n, if_pos (show ((mI, M1) : Int32 × Mem).1 = -1 from rfl), ms_ob H1, gd1n, e1, bs1n, if_neg (show ¬ ((nI 1, M1) : Int32 × Mem).1 = 0 from (show ¬ nI 1 = 0 by decide)), ms_ob H1, gd1n, r1.2.2]
    · have b1 := bad_ok H1 r1
      have r2 := RdM_2 r1 (nI p)
      have H2 : MS (siM M1 1003 4 (nI p)) := MS_2 rfl H1
      refine ⟨nI p, siM M1 1003 4 (nI p), ?_, RP_tr F1 (RP_4 _), r2.1, Or.inr ⟨hw, rfl, by omega⟩⟩
      unfold BM_readArena_197 BM_readArena_220 BM_readArena_224
      rw [ms_ob H, gd1n, r.2.2, if_pos (show mI = -1 from rfl), k1, bs1n, if_pos (show ((mI, M1) : Int32 × Mem).1 = -1 from rfl), ms_ob H1, gd1n, e1, bs1n, if_pos (show ((nI 0, M1) : Int32 × Mem).1 = 0 from rfl), ms_ob H1, gd1n, b1, bs1n, ms_ob H2, gd1n, r2.2.2]
  · obtain ⟨i1, ⟨p', r⟩ | ⟨r, i2, i3, i4⟩⟩ := h
    · refine ⟨nI e, M, ?_, RP_refl M, r.1, rfl, i1⟩
      unfold BM_readArena_197 BM_readArena_224
      rw [ms_ob H, gd1n, r.2.2, if_neg (ne_m1 i1), gd1n]
    · obtain ⟨M1, k1, F1, r1⟩ := ah_ok lk H r i2
      have es : skp l e = e := skp_F i4
      rw [es] at r1 k1
      have H1 : MS M1 := MS_2 F1.1 H
      have b1 := bad_ok H1 r1
      have r2 := RdM_2 r1 (nI e)
      have H2 : MS (siM M1 1003 4 (nI e)) := MS_2 rfl H1
      have hb : e < l.length := by
        rcases Nat.lt_or_ge e l.length with h1 | h1
        · exact h1
        · exact absurd (List.getElem?_eq_none h1) i3
      have hc := lk.2 _ (List.getElem_mem hb)
      have hne : ¬ ((chL l e, M1) : Int32 × Mem).1 = -1 := by
        rw [chL_lt hb]
        exact ne_m1 (e := l[e]) |> fun f => (of_eq_false (n_eqm (show l[e] < 2147483648 by omega)))
      refine ⟨nI e, siM M1 1003 4 (nI e), ?_, RP_tr F1 (RP_4 _), r2.1, rfl, i1⟩
      unfold BM_readArena_197 BM_readArena_220 BM_readArena_224
      rw [ms_ob H, gd1n, r.2.2, if_pos (show mI = -1 from rfl), k1, bs1n, if_neg hne, ms_ob H1, gd1n, b1, bs1n, ms_ob H2, gd1n, r2.2.2]
theorem ra_ok (lk : LOK l) (H : MS M) (h : TPm M l) : ∃ v M', fM_readArena 1003 M = some (v, M') ∧ FB M M' ∧ TPm M' l ∧ ANS l v (RGm M') := by
  have ll := lk.1
  have X : FB M (siM (siM (siM M 1003 3 (nI 0)) 1003 4 mI) 1003 7 (nI 0)) := FB_tr (FB_RP (RP_tr (RP_3 _) (RP_4 _))) (FB_7 _)
  have y3 : giM (siM (siM (siM M 1003 3 (nI 0)) 1003 4 mI) 1003 7 (nI 0)) 1003 3 = nI 0 := by rw [giM_ud, ud_n _ _ (by omega), giM_ud, ud_n _ _ (by omega), giM_ud, ud_s]
  have y4 : giM (siM (siM (siM M 1003 3 (nI 0)) 1003 4 mI) 1003 7 (nI 0)) 1003 4 = mI := by rw [giM_ud, ud_n _ _ (by omega), giM_ud, ud_s]
  have y7 : giM (siM (siM (siM M 1003 3 (nI 0)) 1003 4 mI) 1003 7 (nI 0)) 1003 7 = nI 0 := by rw [giM_ud, ud_s]
  have t1 : TPm (siM (siM (siM M 1003 3 (nI 0)) 1003 4 mI) 1003 7 (nI 0)) l := TPm_cg h (X.2.2 2 (by omega) (by omega) (by omega)) (X.2.1 1004 (by omega) (by omega) (by omega))
  have H1 : MS (siM (siM (siM M 1003 3 (nI 0)) 1003 4 mI) 1003 7 (nI 0)) := MS_2 X.1 H
  obtain ⟨M2, k2, F2, e2, v2⟩ := u19 5 0 1000000 _ (by omega) (by omega) H1 (fun j hj => by omega)
  have k2 : LM_readArena_19 1000000 1003 0 0 (siM (siM (siM M 1003 3 0) 1003 4 (-1)) 1003 7 0) = some M2 := k2
  have H2 : MS M2 := MS_2 F2.1 H1
  have r2 : RdM M2 l 0 mI := ⟨TPm_cg t1 (by rw [e2]) (F2.2.1 1004 (by omega) (by omega)), by rw [e2]; exact y3, by rw [e2]; exact y4⟩
  have g2 : RGm M2 usS 0 (fun _ => 0) := ⟨by omega, by rw [e2]; exact y7, v2, fun j hj => by omega⟩
  obtain ⟨M3, k3, F3, q⟩ := mar_loop lk (l.length + 1) 999999 M2 0 false usS 0 (fun _ => 0) (by omega) (by omega) H2 r2 (by omega) g2 (fun _ => rfl)
  have k3 : LM_readArena_44 1000000 1003 0 1 M2 = some M3 := k3
  obtain ⟨v, M4, k4, F4', t4, an⟩ := ma197 (MS_2 F3.1 H2) q lk rfl
  refine ⟨v, M4, ?_, FB_tr X (FB_tr (FB_5 F2) (FB_tr F3 (FB_RP F4'))), t4, an⟩
  unfold fM_readArena
  rw [ms_ob H, gd1n, k2, bs1n, k3, bs1n]
  exact k4
/-- both answers are the same -/
theorem ans_eq {v v' : Int32} {P P' : (Nat → Nat) → Nat → (Nat → Nat) → Prop} (h : ANS l v P) (g : ANS l v' P') : v = v' ∧ ((v = mI ∧ ∃ f k z, P f k z ∧ P' f k z ∧ WH k z (f 2) ∧ k ≤ 6 ∧ (∀ j, loS j ≤ f j ∧ f j ≤ hiS j) ∧ ∀ j, j < k → 1 ≤ z j ∧ z j ≤ 40) ∨ ¬ v = -1) := by
  unfold ANS at h g
  split at h
  · next p f k z hx =>
    rw [hx] at g
    obtain ⟨k6, fr, zr⟩ := rd_rg hx (by omega) us_rg (fun j hj => by omega)
    rcases h with ⟨h1, h2, h3⟩ | ⟨h1, h2, h3⟩ <;> rcases g with ⟨g1, g2, g3⟩ | ⟨g1, g2, g3⟩
    · exact ⟨by rw [h2, g2], Or.inl ⟨h2, f, k, z, h3, g3, h1, k6, fr, zr⟩⟩
    · exact absurd h1 g1
    · exact absurd g1 h1
    · exact ⟨by rw [h2, g2], Or.inr (by rw [h2]; exact ne_m1 h3)⟩
  · next e hx =>
    rw [hx] at g
    exact ⟨by rw [h.1, g.1], Or.inr (by rw [h.1]; exact ne_m1 h.2)⟩
end RB3
