/-! SCRIPTS RUN: the whole, the class -/
def rnS (ρ : Rul) (r : Bool) (sg : Nat → StT) : Nat → Nat → RSt → Nat × RSt
  | 0, i, x => (i, x)
  | k + 1, i, x => match stp ρ r (sg i) x with
    | none => (i, x)
    | some x' => rnS ρ r sg k (i + 1) x'
def cls (ρ : Rul) (n : Nat) : Nat → HSt → (Nat → GoT) → HSt
  | 0, S, _ => S
  | d + 1, S, g => cls ρ n d (eS ρ (d + 1) n S g).1 (eS ρ (d + 1) n S g).2
def g00 : Nat → GoT := fun _ => (0, 0, 0, false)
def runA (ρ : Rul) (r : Bool) (sg : Nat → StT) (st : Nat) (S : HSt) : Nat × HSt := ((rnS ρ r sg st 0 (S, 0, 0, g00)).1, cls ρ (rnS ρ r sg st 0 (S, 0, 0, g00)).2.2.1 (rnS ρ r sg st 0 (S, 0, 0, g00)).2.2.2.1 (rnS ρ r sg st 0 (S, 0, 0, g00)).2.1 (rnS ρ r sg st 0 (S, 0, 0, g00)).2.2.2.2)
/-- a script that can be run -/
def SGO (sg : Nat → StT) (st : Nat) : Prop := st ≤ 24 ∧ ∀ i, i < st → TOK (sg i) ∧ zz sg i ≤ 6 ∧ ((sg i).1 = 6 → 0 < zz sg i)
theorem SC1_sg {D B N : Nat → Int32} {st : Nat} (h : SC1 D B N st) : ∃ sg, SGO sg st ∧ ∀ i, i < st → D i = nI (sg i).1 ∧ B i = dB (sg i) ∧ N i = dN (sg i) := by
  obtain ⟨h1, h2, h3, z, z0, hz⟩ := h
  have ch : ∀ i, ∃ t : StT, i < st → TOK t ∧ D i = nI t.1 ∧ B i = dB t ∧ N i = dN t := fun i => by
    by_cases hi : i < st
    · obtain ⟨d, y, x, q1, q2, q3, q4, q5, q6, q7, q8⟩ := h3 i hi
      exact ⟨(d, y, x), fun _ => ⟨⟨q1, q3, q5, q6, q7⟩, q2, q4, q8⟩⟩
    · exact ⟨(0, 0, 0), fun h => absurd h hi⟩
  obtain ⟨sg, hs⟩ := Classical.axiomOfChoice ch
  have key : ∀ i, i ≤ st → zz sg i = z i := by
    intro i
    induction i with
    | zero => intro _; exact z0.symm
    | succ i ih =>
      intro hi
      have e := ih (by omega)
      obtain ⟨tk, d1, -, -⟩ := hs i (by omega)
      obtain ⟨a1, a2, a3, a4⟩ := hz i (by omega)
      have t6 := tk.1
      show scp (sg i).1 (zz sg i) = z (i + 1)
      unfold scp
      rw [e]
      rw [d1] at a2 a3 a4
      by_cases c5 : (sg i).1 = 5
      · rw [if_pos c5, a2 (by rw [c5])]
      · rw [if_neg c5]
        by_cases c6 : (sg i).1 = 6
        · rw [if_pos c6]
          have := a3 (by rw [c6])
          omega
        · rw [if_neg c6, a4 (fun e => c5 (n_inj (by omega) (by omega) e)) (fun e => c6 (n_inj (by omega) (by omega) e))]
  refine ⟨sg, ⟨h2, fun i hi => ?_⟩, fun i hi => (hs i hi).2⟩
  obtain ⟨tk, d1, -, -⟩ := hs i hi
  obtain ⟨a1, a2, a3, a4⟩ := hz i hi
  rw [key i (by omega)]
  refine ⟨tk, a1, fun c6 => ?_⟩
  have := a3 (by rw [d1, c6])
  omega
section CW
variable {M M1 M2 : Mem} {ρ : Rul} {β n d h q sc i : Nat} {S : HSt} {g : Nat → GoT} {sg : Nat → StT} {st : Nat}
theorem STc_F (hsc : sc + 3 < h + 1) (hq : h + 17 < q) (F : Fhq h q M M1) {j : Nat} {t : StT} (e : STc M sc j t) : STc M1 sc j t := by
  unfold STc
  rw [F.2 (sc + 1) (by omega) (by omega), F.2 (sc + 2) (by omega) (by omega), F.2 (sc + 3) (by omega) (by omega)]
  exact e
theorem cRunL (hR : RuOK ρ) (hh : 31 < h) (hq : h + 17 < q) (hsc : sc + 3 < h + 1) (hg : SGO sg st) : ∀ k i fu β M S n d g, i + k = st → k < fu → PSh M q → SSh M sc → PG M q n d g → CC M h ρ β S → OKS ρ β S → GOK ρ S n g → n ≤ i → d = zz sg i → β + k < 2000000000 → giM M sc 3 = nI st → (∀ j, j < st → STc M sc j (sg j)) → ∃ M', LG_runWhole_6 fu q h sc (nI i) M = some (nI (rnS ρ true sg k i (S, n, d, g)).1, M') ∧ Fhq h q M M' ∧ PG M' q (rnS ρ true sg k i (S, n, d, g)).2.2.1 (rnS ρ true sg k i (S, n, d, g)).2.2.2.1 (rnS ρ true sg k i (S, n, d, g)).2.2.2.2 ∧ CC M' h ρ (β + k) (rnS ρ true sg k i (S, n, d, g)).2.1 ∧ OKS ρ (β + k) (rnS ρ true sg k i (S, n, d, g)).2.1 ∧ GOK ρ (rnS ρ true sg k i (S, n, d, g)).2.1 (rnS ρ true sg k i (S, n, d, g)).2.2.1 (rnS ρ true sg k i (S, n, d, g)).2.2.2.2 ∧ (rnS ρ true sg k i (S, n, d, g)).2.2.1 ≤ 24 ∧ (rnS ρ true sg k i (S, n, d, g)).2.2.2.1 ≤ 7 := by
  intro k
  have st24 := hg.1
  have zb : ∀ i, i ≤ st → zz sg i ≤ 7 := fun i hi => by
    cases i with
    | zero => exact Nat.zero_le _
    | succ i =>
      have := (hg.2 i (by omega)).2.1
      show scp (sg i).1 (zz sg i) ≤ 7
      unfold scp
      split
      · omega
      · split <;> omega
  induction k with
  | zero =>
    intro i fu β M S n d g hi hf PS SS P C V G hn hd hβ h3 hS
    obtain ⟨f, rfl⟩ : ∃ f, fu = f + 1 := ⟨fu - 1, by omega⟩
    refine ⟨M, ?_, Fhq_refl h q M, P, C, V, G, by show n ≤ 24; omega, by show d ≤ 7; rw [hd]; exact zb i (by omega)⟩
    show BG_runWhole_6 (LG_runWhole_6 f) q h sc (nI i) M = _
    unfold BG_runWhole_6
    rw [SS.2.1, gd1n, h3, if_pos (of_eq_true (n_leT (by omega) (by omega)))]
    rfl
  | succ k ih =>
    intro i fu β M S n d g hi hf PS SS P C V G hn hd hβ h3 hS
    obtain ⟨f, rfl⟩ : ∃ f, fu = f + 1 := ⟨fu - 1, by omega⟩
    obtain ⟨tk, z6, z0⟩ := hg.2 i (by omega)
    have ns : ¬ nI st ≤ nI i := of_eq_false (n_leF (by omega) (by omega))
    have head : LG_runWhole_6 (f + 1) q h sc (nI i) M = (fG_doStep q h sc (nI i) M).bind fun q2 => if q2.1 = 0 then (some (nI i, q2.2)) else (LG_runWhole_6 f q h sc (nI i + 1) q2.2) := by
      show BG_runWhole_6 (LG_runWhole_6 f) q h sc (nI i) M = _
      unfold BG_runWhole_6
      rw [SS.2.1, gd1n, h3, if_neg ns, ps_ob PS, gd1n]
    rw [head]
    rcases cStep (t := sg i) hh hq PS SS P C V G (by omega) (by omega) (by omega) (by omega) (fun e => by rw [hd]; exact z0 e) tk (hS i (by omega)) with ⟨j1, j2⟩ | ⟨M1, x, j1, j2, F1, P1, C1⟩
    · have er : rnS ρ true sg (k + 1) i (S, n, d, g) = (i, S, n, d, g) := by
        unfold rnS
        rw [j2]
      rw [er, j1, bs1n, if_pos (show ((nI 0, M) : Int32 × Mem).1 = 0 from rfl)]
      exact ⟨M, rfl, Fhq_refl h q M, P, CC_mono (by omega) C, OKS_mono (by omega) V, G, by show n ≤ 24; omega, by show d ≤ 7; omega⟩
    · have er : rnS ρ true sg (k + 1) i (S, n, d, g) = rnS ρ true sg k (i + 1) x := by
        show (match stp ρ true (sg i) (S, n, d, g) with | none => (i, S, n, d, g) | some x' => rnS ρ true sg k (i + 1) x') = _
        rw [j2]
      obtain ⟨V1, G1, n1, d1⟩ := stp_ok hR V G j2 tk.1
      obtain ⟨S1, n', d', g'⟩ := x
      have n1 : n' ≤ n + 1 := n1
      have d1 : d' = scp (sg i).1 d := d1
      obtain ⟨M2, k2, F2, r2⟩ := ih (i + 1) f (β + 1) M1 S1 n' d' g' (by omega) (by omega) (PS_2 F1.1 PS) (SS_2 F1.1 SS) P1 C1 V1 G1 (by omega) (by rw [d1, hd]; rfl) (by omega) (by rw [F1.2 sc (by omega) (by omega)]; exact h3) (fun j hj => STc_F hsc hq F1 (hS j hj))
      rw [er, j1, bs1n, if_neg (show ¬ ((nI 1, M1) : Int32 × Mem).1 = 0 from (show ¬ nI 1 = 0 by decide)), l_1, n_add]
      refine ⟨M2, k2, Fhq_tr F1 F2, ?_⟩
      rw [show β + (k + 1) = β + 1 + k by omega]
      exact r2
theorem cCls (hR : RuOK ρ) (hh : 31 < h) (hq : h + 17 < q) (hn : n ≤ 24) (v3 : Int32) : ∀ e fu M S g, e ≤ 7 → e < fu → PSh M q → PG M q n e g → CC M h ρ β S → OKS ρ β S → GOK ρ S n g → ∃ M', LG_runWhole_36 fu q h v3 (nI e) M = some (v3, M') ∧ Fhq h q M M' ∧ CC M' h ρ β (cls ρ n e S g) ∧ OKS ρ β (cls ρ n e S g) := by
  intro e
  induction e with
  | zero =>
    intro fu M S g he hf PS P C V G
    obtain ⟨f, rfl⟩ : ∃ f, fu = f + 1 := ⟨fu - 1, by omega⟩
    refine ⟨M, ?_, Fhq_refl h q M, C, V⟩
    show BG_runWhole_36 (LG_runWhole_36 f) q h v3 (nI 0) M = _
    unfold BG_runWhole_36
    rw [if_pos (show nI 0 ≤ 0 by decide)]
  | succ e ih =>
    intro fu M S g he hf PS P C V G
    obtain ⟨f, rfl⟩ : ∃ f, fu = f + 1 := ⟨fu - 1, by omega⟩
    obtain ⟨M1, k1, F1, P1, C1⟩ := cEnd hh hq hn (show 0 < e + 1 by omega) he PS P C V G
    obtain ⟨V1, G1⟩ := eS_ok (d := e + 1) hR n S g (Nat.le_refl n) V G
    obtain ⟨M2, k2, F2, r2⟩ := ih f M1 _ _ (by omega) (by omega) (PS_2 F1.1 PS) P1 C1 V1 G1
    refine ⟨M2, ?_, Fhq_tr F1 F2, r2⟩
    show BG_runWhole_36 (LG_runWhole_36 f) q h v3 (nI (e + 1)) M = _
    unfold BG_runWhole_36
    have : nI (e + 1) + (-1) = nI e := pd_s (e + 1)
    rw [if_neg (show ¬ nI (e + 1) ≤ 0 from of_eq_false (n_leF (a := e + 1) (b := 0) (by omega) (by omega))), ps_ob PS, gd1n, k1, bs1n, this]
    exact k2
theorem cRunW (hR : RuOK ρ) (hh : 31 < h) (hq : h + 17 < q) (hsc : sc + 3 < h + 1) (hg : SGO sg st) (PS : PSh M q) (SS : SSh M sc) (C : CC M h ρ β S) (V : OKS ρ β S) (hβ : β + 24 < 2000000000) (h3 : giM M sc 3 = nI st) (hS : ∀ j, j < st → STc M sc j (sg j)) : ∃ M', fG_runWhole q h sc M = some (nI (runA ρ true sg st S).1, M') ∧ Fhq h q M M' ∧ CC M' h ρ (β + 24) (runA ρ true sg st S).2 ∧ OKS ρ (β + 24) (runA ρ true sg st S).2 := by
  have st24 := hg.1
  have ps := ps_b PS
  have F0 : Fhq h q M (siM (siM M q 3 (nI 0)) q 4 (nI 0)) := Fhq_tr (Fhq_q (by omega) (by omega)) (Fhq_q (by omega) (by omega))
  have P0 : PG (siM (siM M q 3 (nI 0)) q 4 (nI 0)) q 0 0 g00 := ⟨by rw [giM_ud, ud_n _ _ (by omega), giM_ud, ud_s], by rw [giM_ud, ud_s], fun r hr => by omega⟩
  have PS0 := PS_2 F0.1 PS
  have C0 : CC (siM (siM M q 3 (nI 0)) q 4 (nI 0)) h ρ β S := CC_q (CC_q C (by omega) (by omega)) (by omega) (by omega)
  obtain ⟨M1, k1, F1, P1, C1, V1, G1, n1, d1⟩ := cRunL hR hh hq hsc hg st 0 1000000 β _ S 0 0 g00 (by omega) (by omega) PS0 (SS_2 F0.1 SS) P0 C0 V ⟨fun r hr => by omega, fun r r' hr => by omega⟩ (by omega) rfl (by omega) (by rw [F0.2 sc (by omega) (by omega)]; exact h3) (fun j hj => STc_F hsc hq F0 (hS j hj))
  have PS1 := PS_2 F1.1 PS0
  obtain ⟨M2, k2, F2, C2, V2⟩ := cCls hR hh hq n1 (nI (rnS ρ true sg st 0 (S, 0, 0, g00)).1) _ 1000000 M1 _ _ d1 (by omega) PS1 P1 C1 V1 G1
  refine ⟨M2, ?_, Fhq_tr F0 (Fhq_tr F1 F2), CC_mono (by omega) C2, OKS_mono (by omega) V2⟩
  have k1 : LG_runWhole_6 1000000 q h sc 0 (siM (siM M q 3 0) q 4 0) = some (nI (rnS ρ true sg st 0 (S, 0, 0, g00)).1, M1) := k1
  unfold fG_runWhole fG_restart BG_runWhole_30
  rw [ps_ob PS, gd1n, gd1n, bs1n, k1, bs1n, ps_ob PS1, gd1n, P1.2.1, k2, bs1n]
  rfl
end CW
