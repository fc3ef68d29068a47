/-! READING: a script, as a pure function; the class -/
def scL (l : List Nat) : Nat → Nat → Nat → Nat → (Nat → StT) → (Nat × (Nat → StT)) ⊕ Nat
  | 0, _, _, _, _ => .inr 0
  | n + 1, i, a, s, g => match spR l a s with
    | .inr e => .inr e
    | .inl (p, t) => if l[skp l p]? = none then (if scp t.1 s = 0 then .inl (i + 1, ud g i t) else .inr (skp l p)) else if l[skp l p]? = some 59 ∧ i + 1 < 24 then scL l n (i + 1) (skp l p + 1) (scp t.1 s) (ud g i t) else .inr (skp l p)
theorem scL_s (l : List Nat) (n i a s : Nat) (g : Nat → StT) : scL l (n + 1) i a s g = match spR l a s with
    | .inr e => .inr e
    | .inl (p, t) => if l[skp l p]? = none then (if scp t.1 s = 0 then .inl (i + 1, ud g i t) else .inr (skp l p)) else if l[skp l p]? = some 59 ∧ i + 1 < 24 then scL l n (i + 1) (skp l p + 1) (scp t.1 s) (ud g i t) else .inr (skp l p) := rfl
def TOK (t : StT) : Prop := t.1 ≤ 6 ∧ t.2.1 ≤ 9 ∧ t.2.2 ≤ 40 ∧ (t.1 = 0 → 1 ≤ t.2.2) ∧ (t.1 = 1 → t.2.2 ≤ 23)
section SY
variable {M M1 M2 : Mem} {l : List Nat} {a p i s w : Nat}
theorem spN_rg {y c : Nat} {t : StT} (hw : w < 2) (hy : y ≤ 9) (h : spN l w y c = .inl (p, t)) : TOK t ∧ t.1 = w := by
  unfold spN at h
  split at h
  · split at h
    · next x q hn =>
      have e := Sum.inl.inj h
      obtain rfl := congrArg Prod.snd e
      have := nm_rg hn
      unfold loN hiN at this
      refine ⟨⟨by show w ≤ 6; omega, hy, ?_, ?_, ?_⟩, rfl⟩
      · show x ≤ 40
        split at this <;> omega
      · intro hw0
        have hw0 : w = 0 := hw0
        rw [if_pos hw0] at this
        exact this.1
      · intro hw1
        have hw1 : w = 1 := hw1
        rw [if_neg (show ¬ w = 0 by omega), if_neg (show ¬ w = 0 by omega)] at this
        exact this.2.1
    · cases h
  · cases h
theorem spR_rg {t : StT} (lk : LOK l) (h : spR l a s = .inl (p, t)) : TOK t ∧ (t.1 = 5 → s < 6) ∧ (t.1 = 6 → 0 < s) := by
  unfold spR at h
  split at h
  · cases h
  · next w ht =>
    have hw : w ≤ 6 := by
      rcases Nat.lt_or_ge (skp l a) l.length with h1 | h1
      · rw [List.getElem?_eq_getElem h1, bs1n] at ht
        exact tix_26 ht
      · rw [List.getElem?_eq_none h1] at ht
        cases ht
    split at h
    · cases h
    · next hn =>
      split at h
      · have e := Sum.inl.inj h
        obtain rfl := congrArg Prod.snd e
        refine ⟨⟨hw, by show 0 ≤ 9; omega, by show 0 ≤ 40; omega, fun e => ?_, fun _ => by show 0 ≤ 23; omega⟩, fun e => ?_, fun e => ?_⟩
        · have e : w = 0 := e
          omega
        · have e : w = 5 := e
          omega
        · have e : w = 6 := e
          omega
      · unfold spD at h
        split at h
        · cases h
        · next y hy =>
          have hy9 := (dg_some hy).2.1
          split at h
          · have e := Sum.inl.inj h
            obtain rfl := congrArg Prod.snd e
            refine ⟨⟨hw, hy9, by show 0 ≤ 40; omega, fun e => ?_, fun _ => by show 0 ≤ 23; omega⟩, fun e => ?_, fun e => ?_⟩
            · have e : w = 0 := e
              omega
            · have e : w = 5 := e
              omega
            · have e : w = 6 := e
              omega
          · obtain ⟨q1, q2⟩ := spN_rg (by omega) hy9 h
            exact ⟨q1, fun e => by omega, fun e => by omega⟩
theorem scp_le {t : StT} (h : (t.1 = 5 → s < 6)) (hs : s ≤ 6) : scp t.1 s ≤ 6 := by
  unfold scp
  split
  · next e => have := h e; omega
  · split <;> omega
def SG (M : Mem) (i : Nat) (g : Nat → StT) : Prop := ∀ j, j < i → ST1 M j (g j)
def FT (M M' : Mem) : Prop := M'.2 = M.2 ∧ ∀ x, x ≠ 4 → x ≠ 28 → x ≠ 29 → x ≠ 30 → x ≠ 31 → giM M' x = giM M x
theorem FT_refl (M : Mem) : FT M M := ⟨rfl, fun _ _ _ _ _ _ => rfl⟩
theorem FT_tr (h : FT M M1) (g : FT M1 M2) : FT M M2 := ⟨g.1.trans h.1, fun x h1 h2 h3 h4 h5 => (g.2 x h1 h2 h3 h4 h5).trans (h.2 x h1 h2 h3 h4 h5)⟩
theorem FT_F4 (F : Fr M M1 4 4) : FT M M1 := ⟨F.1, fun x h1 _ _ _ _ => F.2 x (by omega)⟩
theorem FT_FS (F : FS i M M1) : FT M M1 := ⟨F.1, fun x h1 _ h3 h4 h5 => F.2.1 x h1 h3 h4 h5⟩
theorem FT_28 (z : Int32) : FT M (siM M 28 3 z) := ⟨rfl, fun x _ h _ _ _ => giM_un h⟩
theorem SHP_FT (A : SHP M) (F : FT M M1) : SHP M1 := SHP_2 A F.1 (fun x h1 _ => F.2 x (by omega) (by omega) (by omega) (by omega) (by omega))
theorem ST1_cg {j : Nat} {t : StT} (h : ST1 M j t) (e1 : giM M1 29 j = giM M 29 j) (e2 : giM M1 30 j = giM M 30 j) (e3 : giM M1 31 j = giM M 31 j) : ST1 M1 j t := ⟨e1.trans h.1, e2.trans h.2.1, e3.trans h.2.2⟩
theorem SG_FS {g : Nat → StT} {t : StT} (h : SG M i g) (F : FS i M M1) (q : ST1 M1 i t) : SG M1 (i + 1) (ud g i t) := fun j hj => by
  rw [ud_at]
  by_cases e : j = i
  · rw [if_pos e, e]; exact q
  · rw [if_neg e]
    exact ST1_cg (h j (by omega)) (F.2.2 j e).1 (F.2.2 j e).2.1 (F.2.2 j e).2.2
theorem SG_cg {g : Nat → StT} (h : SG M i g) (e1 : giM M1 29 = giM M 29) (e2 : giM M1 30 = giM M 30) (e3 : giM M1 31 = giM M 31) : SG M1 i g := fun j hj => ST1_cg (h j hj) (by rw [e1]) (by rw [e2]) (by rw [e3])
theorem SG_F4 {g : Nat → StT} (h : SG M i g) (F : Fr M M1 4 4) : SG M1 i g := SG_cg h (F.2 29 (by omega)) (F.2 30 (by omega)) (F.2 31 (by omega))
def RSO (l : List Nat) (x : (Nat × (Nat → StT)) ⊕ Nat) (r : Int32 × Int32 × Mem) : Prop := match x with
  | .inl (st, g) => r.1 = nI 0 ∧ r.2.1 = nI 1 ∧ (∃ p, RdC r.2.2 l p mI) ∧ SG r.2.2 st g ∧ giM r.2.2 28 3 = nI st
  | .inr e => e ≤ 240 ∧ ((∃ p', RdC r.2.2 l p' (nI e)) ∨ (RdC r.2.2 l e mI ∧ (r.2.1 = nI 0 ∨ (r.2.1 = nI 1 ∧ ∃ s, 0 < s ∧ s ≤ 7 ∧ r.1 = nI s))))
theorem ls_e (g : Nat) (v2 v4 : Int32) : LS_readFrom_16 (g + 1) 28 4 v2 1 v4 M = some (v2, 1, M) := by
  show BS_readFrom_16 (LS_readFrom_16 g) 28 4 v2 1 v4 M = _
  unfold BS_readFrom_16
  split
  · rfl
  · rw [if_neg (show ¬ (1 : Int32) = 0 by decide)]
theorem ls_w {e : Nat} (g : Nat) (v2 v3 v4 : Int32) (A : SHP M) (he : e ≤ 240) (h : RdC M l p (nI e)) : LS_readFrom_16 (g + 1) 28 4 v2 v3 v4 M = some (v2, v3, M) := by
  have w1 := wr1 A (by omega) h
  show BS_readFrom_16 (LS_readFrom_16 g) 28 4 v2 v3 v4 M = _
  unfold BS_readFrom_16
  split
  · rfl
  · split
    · rw [as_o4 A, gd1n, w1, bs1n, if_neg (show ¬ ((nI 1, M) : Int32 × Mem).1 = 0 from (show ¬ nI 1 = 0 by decide))]
    · rfl
theorem sc_loop (lk : LOK l) : ∀ n fu M i a s g, i + n = 24 → n < fu → SHP M → RdC M l a mI → a ≤ l.length → i < 24 → s ≤ 6 → SG M i g → ∃ r, LS_readFrom_16 (fu + 1) 28 4 (nI s) (nI 0) (nI i) M = some r ∧ FT M r.2.2 ∧ RSO l (scL l n i a s g) r := by
  intro n
  have ll := lk.1
  induction n with
  | zero => intro fu M i a s g h1 h2 A h ha hi; omega
  | succ n ih =>
    intro fu M i a s g h1 h2 A h ha hi hs gg
    obtain ⟨gf, rfl⟩ : ∃ g, fu = g + 1 := ⟨fu - 1, by omega⟩
    have w0 := wr0 A h
    obtain ⟨v, M1, k1, F1, q⟩ := srCl lk A h ha hi hs
    have A1 := SHP_FS A F1
    have A2 : SHP (siM M1 28 3 (nI (i + 1))) := SHP_FT A1 (FT_28 _)
    have z2 : giM (siM M1 28 3 (nI (i + 1))) 28 3 = nI (i + 1) := by rw [giM_ud, ud_s]
    have e16 : LS_readFrom_16 (gf + 1 + 1) 28 4 (nI s) (nI 0) (nI i) M = (fR_peek 4 (siM M1 28 3 (nI (i + 1)))).bind fun q6 => if q6.1 = -1 then (BS_readFrom_64 (LS_readFrom_16 (gf + 1)) 28 4 v (nI i) 1 q6.2) else (BS_readFrom_64 (LS_readFrom_16 (gf + 1)) 28 4 v (nI i) 0 q6.2) := by
      show BS_readFrom_16 (LS_readFrom_16 (gf + 1)) 28 4 (nI s) (nI 0) (nI i) M = _
      unfold BS_readFrom_16
      rw [if_neg (show ¬ 24 ≤ nI i from of_eq_false (n_leF (a := 24) (b := i) (by omega) (by omega))), if_pos (show nI 0 = 0 from rfl), as_o4 A, gd1n, w0, bs1n, if_pos (show ((nI 0, M) : Int32 × Mem).1 = 0 from rfl), as_o28 A, gd1n, k1, bs1n, as_o28 A1, gd1n, as_o4 A1, gd1n, l_1, n_add]
    rw [e16, scL_s]
    have e84 : nI i + 1 = nI (i + 1) := by rw [l_1, n_add]
    cases hx : spR l a s with
    | inr e =>
      rw [hx] at q
      obtain ⟨he, p', hp', r1⟩ := q
      have r2 : RdC (siM M1 28 3 (nI (i + 1))) l p' (nI e) := RdC_o r1 (by omega) (by omega) (by omega)
      obtain ⟨M3, k3, F3, r3, i1, i2, i3⟩ := pek_ok lk A2 r2 hp'
      have A3 := SHP_Fr A2 F3 (by omega)
      have z3 : giM M3 28 3 = nI (i + 1) := by rw [F3.2 28 (by omega)]; exact z2
      have FF : FT M M3 := FT_tr (FT_FS F1) (FT_tr (FT_28 _) (FT_F4 F3))
      rw [k3, bs1n]
      have fin : ∀ w0, ∃ r, BS_readFrom_64 (LS_readFrom_16 (gf + 1)) 28 4 v (nI i) w0 M3 = some r ∧ FT M r.2.2 ∧ RSO l (.inr e) r := fun w0 => by
        unfold BS_readFrom_64 BS_readFrom_84
        by_cases hw : w0 = 0
        · rw [if_pos hw, as_o28 A3, gd1n]
          by_cases h24 : 24 ≤ giM M3 28 3
          · rw [if_pos h24, ls_w _ _ _ _ A3 he r3]
            exact ⟨_, rfl, FF, he, Or.inl ⟨_, r3⟩⟩
          · obtain ⟨M4, p4, k4, F4', r4, i4⟩ := exp_w (c := 59) lk A3 he r3 i1
            have A4 := SHP_Fr A3 F4' (by omega)
            have k4 : fR_expect 4 59 M3 = some M4 := k4
            rw [if_neg h24, as_o4 A3, gd1n, k4, bs1n, ls_w _ _ _ _ A4 he r4]
            exact ⟨_, rfl, FT_tr FF (FT_F4 F4'), he, Or.inl ⟨_, r4⟩⟩
        · rw [if_neg hw, ls_w _ _ _ _ A3 he r3]
          exact ⟨_, rfl, FF, he, Or.inl ⟨_, r3⟩⟩
      show ∃ r, (if chL l (skp l p') = -1 then _ else _) = some r ∧ _
      by_cases hc : chL l (skp l p') = -1
      · rw [if_pos hc]; exact fin _
      · rw [if_neg hc]; exact fin _
    | inl x =>
      obtain ⟨p, t⟩ := x
      rw [hx] at q
      obtain ⟨rfl, r1, hp, st⟩ := q
      obtain ⟨tk, t5, t6⟩ := spR_rg lk hx
      have hs' := scp_le t5 hs
      have g1 := SG_FS gg F1 st
      have r2 : RdC (siM M1 28 3 (nI (i + 1))) l p mI := RdC_o r1 (by omega) (by omega) (by omega)
      have g2 : SG (siM M1 28 3 (nI (i + 1))) (i + 1) (ud g i t) := SG_cg g1 (giM_un (by omega)) (giM_un (by omega)) (giM_un (by omega))
      obtain ⟨M3, k3, F3, r3, i1, i2, i3⟩ := pek_ok lk A2 r2 hp
      have A3 := SHP_Fr A2 F3 (by omega)
      have z3 : giM M3 28 3 = nI (i + 1) := by rw [F3.2 28 (by omega)]; exact z2
      have g3 := SG_F4 g2 F3
      have FF : FT M M3 := FT_tr (FT_FS F1) (FT_tr (FT_28 _) (FT_F4 F3))
      rw [k3, bs1n]
      show ∃ r, (if chL l (skp l p) = -1 then BS_readFrom_64 (LS_readFrom_16 (gf + 1)) 28 4 (nI (scp t.1 s)) (nI i) 1 M3 else BS_readFrom_64 (LS_readFrom_16 (gf + 1)) 28 4 (nI (scp t.1 s)) (nI i) 0 M3) = some r ∧ FT M r.2.2 ∧ RSO l (if l[skp l p]? = none then (if scp t.1 s = 0 then .inl (i + 1, ud g i t) else .inr (skp l p)) else if l[skp l p]? = some 59 ∧ i + 1 < 24 then scL l n (i + 1) (skp l p + 1) (scp t.1 s) (ud g i t) else .inr (skp l p)) r
      generalize hb : skp l p = b at *
      cases hd : l[b]? with
      | none =>
        have ec : chL l b = mI := by
          unfold chL
          rw [hd]
          rfl
        rw [ec, if_pos (show mI = -1 from rfl), if_pos rfl]
        unfold BS_readFrom_64 BS_readFrom_84
        rw [if_neg (show ¬ (1 : Int32) = 0 by decide), ls_e]
        refine ⟨_, rfl, FF, ?_⟩
        by_cases h0 : scp t.1 s = 0
        · rw [if_pos h0]
          exact ⟨by rw [h0], rfl, ⟨b, r3⟩, g3, z3⟩
        · rw [if_neg h0]
          exact ⟨by omega, Or.inr ⟨r3, Or.inr ⟨rfl, scp t.1 s, by omega, by omega, rfl⟩⟩⟩
      | some c =>
        have hbl : b < l.length := by
          rcases Nat.lt_or_ge b l.length with h1 | h1
          · exact h1
          · rw [List.getElem?_eq_none h1] at hd
            cases hd
        have hcl : c ≤ 255 := by
          rw [List.getElem?_eq_getElem hbl] at hd
          have := lk.2 _ (List.getElem_mem hbl)
          have := Option.some.inj hd
          omega
        have ec : chL l b = nI c := by
          unfold chL
          rw [hd]
          rfl
        rw [ec, if_neg (show ¬ nI c = -1 from of_eq_false (n_eqm (show c < 2147483648 by omega))), if_neg (fun h => by cases h)]
        unfold BS_readFrom_64 BS_readFrom_84
        rw [if_pos (show (0 : Int32) = 0 from rfl), as_o28 A3, gd1n, z3, e84]
        by_cases h24 : i + 1 < 24
        · rw [if_neg (show ¬ 24 ≤ nI (i + 1) from of_eq_false (n_leF (a := 24) (b := i + 1) (by omega) (by omega))), as_o4 A3, gd1n]
          obtain ⟨M4, k4, F4', hh⟩ := exp_c (c := 59) lk A3 r3 i1 (by omega)
          have eb : skp l b = b := skp_F i3
          rw [eb] at hh
          have A4 := SHP_Fr A3 F4' (by omega)
          have k4 : fR_expect 4 59 M3 = some M4 := k4
          rw [k4, bs1n]
          rcases hh with ⟨e1, r4, i4⟩ | ⟨e1, r4, i4⟩
          · rw [hd] at e1
            rw [if_pos ⟨e1, h24⟩]
            obtain ⟨r, k5, F5, q5⟩ := ih gf M4 (i + 1) (b + 1) (scp t.1 s) (ud g i t) (by omega) (by omega) A4 r4 i4 h24 hs' (SG_F4 g3 F4')
            exact ⟨r, k5, FT_tr FF (FT_tr (FT_F4 F4') F5), q5⟩
          · rw [hd] at e1
            rw [if_neg (show ¬ (some c = some 59 ∧ i + 1 < 24) from fun h => e1 h.1), ls_w _ _ _ _ A4 (show b ≤ 240 by omega) r4]
            exact ⟨_, rfl, FT_tr FF (FT_F4 F4'), by omega, Or.inl ⟨b, r4⟩⟩
        · rw [if_pos (show 24 ≤ nI (i + 1) from of_eq_true (n_leT (a := 24) (b := i + 1) (by omega) (by omega))), if_neg (show ¬ (some c = some 59 ∧ i + 1 < 24) from fun h => h24 h.2)]
          have e0 : LS_readFrom_16 (gf + 1) 28 4 (nI (scp t.1 s)) 0 (nI (i + 1)) M3 = some (nI (scp t.1 s), 0, M3) := by
            show BS_readFrom_16 (LS_readFrom_16 gf) 28 4 (nI (scp t.1 s)) 0 (nI (i + 1)) M3 = _
            unfold BS_readFrom_16
            rw [if_pos (show 24 ≤ nI (i + 1) from of_eq_true (n_leT (a := 24) (b := i + 1) (by omega) (by omega)))]
          rw [e0]
          exact ⟨_, rfl, FF, by omega, Or.inr ⟨r3, Or.inl rfl⟩⟩
def ANT (l : List Nat) (v : Int32) (P : Nat → (Nat → StT) → Prop) : Prop := match scL l 24 0 0 0 (fun _ => (0, 0, 0)) with
  | .inl (st, g) => v = mI ∧ P st g
  | .inr e => v = nI e ∧ e ≤ 240
theorem rs_ok (lk : LOK l) (A : SHP M) (h : TPc M l) : ∃ v M', fS_readFrom 28 4 M = some (v, M') ∧ FT M M' ∧ TPc M' l ∧ ANT l v (fun st g => SG M' st g ∧ giM M' 28 3 = nI st) := by
  have ll := lk.1
  have A0 : SHP (siM M 28 3 (nI 0)) := SHP_FT A (FT_28 _)
  obtain ⟨M1, k1, F1, r1⟩ := rew_ok A0 (TPc_cg h (giM_un (by omega)) (giM_un (by omega)))
  have A1 := SHP_Fr A0 F1 (by omega)
  have k1 : fR_rewind 4 (siM M 28 3 0) = some M1 := k1
  obtain ⟨r, k2, F2, q⟩ := sc_loop lk 24 999999 M1 0 0 0 (fun _ => (0, 0, 0)) (by omega) (by omega) A1 r1 (by omega) (by omega) (by omega) (fun j hj => by omega)
  have k2 : LS_readFrom_16 1000000 28 4 0 0 0 M1 = some r := k2
  have A2 := SHP_FT A1 F2
  have FF : FT M r.2.2 := FT_tr (FT_28 _) (FT_tr (FT_F4 F1) F2)
  obtain ⟨v2, v3, M2⟩ := r
  have A2 : SHP M2 := A2
  have key : ∃ v M', BS_readFrom_90 4 v2 v3 M2 = some (v, M') ∧ Fr M2 M' 4 4 ∧ TPc M' l ∧ ANT l v (fun st g => SG M' st g ∧ giM M' 28 3 = nI st) := by
    unfold ANT
    unfold BS_readFrom_90 BS_readFrom_98 BS_readFrom_102
    cases hx : scL l 24 0 0 0 (fun _ => (0, 0, 0)) with
    | inl x =>
      obtain ⟨st, g⟩ := x
      rw [hx] at q
      obtain ⟨q1, q2, ⟨p, q3⟩, q4, q5⟩ := q
      have q1 : v2 = nI 0 := q1
      have q2 : v3 = nI 1 := q2
      subst q1
      subst q2
      rw [if_neg (show ¬ nI 1 = 0 by decide), if_pos (show nI 0 ≤ 0 by decide), as_o4 A2, gd1n]
      exact ⟨_, _, rfl, Fr_refl _ _ _, q3.1, q3.2.2, q4, q5⟩
    | inr e =>
      rw [hx] at q
      obtain ⟨he, ⟨p', r2⟩ | ⟨r2, hh⟩⟩ := q
      · have m1 := mark_w A2 he r2
        have r2 : RdC M2 l p' (nI e) := r2
        have fin : ∀ b : Bool, (if b then (gd (obM M2 4 6 3) <| (fR_mark 4 M2).bind fun q1 => gd (obM q1 4 6 3) <| some (giM q1 4 2, q1)) else (gd (obM M2 4 6 3) <| some (giM M2 4 2, M2))) = some (nI e, M2) := fun b => by
          cases b
          · show (gd (obM M2 4 6 3) <| some (giM M2 4 2, M2)) = _
            rw [as_o4 A2, gd1n, r2.2.2]
          · show (gd (obM M2 4 6 3) <| (fR_mark 4 M2).bind fun q1 => gd (obM q1 4 6 3) <| some (giM q1 4 2, q1)) = _
            rw [as_o4 A2, gd1n, m1, bs1n, as_o4 A2, gd1n, r2.2.2]
        refine ⟨nI e, M2, ?_, Fr_refl _ _ _, r2.1, rfl, he⟩
        split
        · exact fin true
        · split
          · exact fin false
          · exact fin true
      · have r2 : RdC M2 l e mI := r2
        have m1 := mark_ok A2 r2
        have A3 := SHP_4 (i := 2) (z := nI e) A2
        have r3 := RdC_2 r2 (nI e)
        refine ⟨nI e, siM M2 4 2 (nI e), ?_, F4, r3.1, rfl, he⟩
        have fin : (gd (obM M2 4 6 3) <| (fR_mark 4 M2).bind fun q1 => gd (obM q1 4 6 3) <| some (giM q1 4 2, q1)) = some (nI e, siM M2 4 2 (nI e)) := by
          rw [as_o4 A2, gd1n, m1, bs1n, as_o4 A3, gd1n, r3.2.2]
        rcases hh with h0 | ⟨h0, s, s1, s2, s3⟩
        · have h0 : v3 = nI 0 := h0
          rw [h0, if_pos (show nI 0 = 0 from rfl)]
          exact fin
        · have h0 : v3 = nI 1 := h0
          have s3 : v2 = nI s := s3
          rw [h0, s3, if_neg (show ¬ nI 1 = 0 by decide), if_neg (show ¬ nI s ≤ 0 from of_eq_false (n_leF (a := s) (b := 0) (by omega) (by omega)))]
          exact fin
  obtain ⟨v, M', k3, F3, t3, an⟩ := key
  refine ⟨v, M', ?_, FT_tr FF (FT_F4 F3), t3, an⟩
  unfold fS_readFrom
  rw [as_o28 A, gd1n, as_o4 A, gd1n, k1, bs1n, k2, bs1n]
  exact k3
end SY
