/-! SCRIPTS RUN: the whole, the reference -/
section MW
variable {M M1 M2 : Mem} {ρ : Rul} {β n d sn i : Nat} {S : HSt} {g : Nat → GoT} {sg : Nat → StT} {st : Nat} {r : Bool}
theorem STm_Q {sd o : Nat} {t : StT} (F : RQ sd M M1) (e : STm M o t) : STm M1 o t := by
  unfold STm
  rw [F.2.1 1009 (by omega) (by omega) (by omega)]
  exact e
theorem mRunL (hR : RuOK ρ) (hsn : sn ≤ 4) (hg : SGO sg st) : ∀ k i fu β M S n d g, i + k = st → k < fu → PGm M 0 n d g → RC M ρ S → OKS ρ β S → GOK ρ S n g → n ≤ i → d = zz sg i → β + k < 2000000000 → giM M 1010 sn = nI st → (∀ j, j < st → STm M (3 * (24 * sn + j)) (sg j)) → ∃ M', LM_runScript_14 fu 1003 (nI sn) (hI r) (nI i) M = some (nI (rnS ρ r sg k i (S, n, d, g)).1, M') ∧ RQ 0 M M' ∧ PGm M' 0 (rnS ρ r sg k i (S, n, d, g)).2.2.1 (rnS ρ r sg k i (S, n, d, g)).2.2.2.1 (rnS ρ r sg k i (S, n, d, g)).2.2.2.2 ∧ RC M' ρ (rnS ρ r sg k i (S, n, d, g)).2.1 ∧ OKS ρ (β + k) (rnS ρ r sg k i (S, n, d, g)).2.1 ∧ GOK ρ (rnS ρ r sg k i (S, n, d, g)).2.1 (rnS ρ r sg k i (S, n, d, g)).2.2.1 (rnS ρ r sg k i (S, n, d, g)).2.2.2.2 ∧ (rnS ρ r sg k i (S, n, d, g)).2.2.1 ≤ 24 ∧ (rnS ρ r sg k i (S, n, d, g)).2.2.2.1 ≤ 7 := by
  intro k
  have st24 := hg.1
  have zb : ∀ i, i ≤ st → zz sg i ≤ 7 := fun i hi => by
    cases i with
    | zero => exact Nat.zero_le _
    | succ i =>
      have := (hg.2 i (by omega)).2.1
      show scp (sg i).1 (zz sg i) ≤ 7
      unfold scp
      split
      · omega
      · split <;> omega
  induction k with
  | zero =>
    intro i fu β M S n d g hi hf P C V G hn hd hβ h3 hS
    obtain ⟨f, rfl⟩ : ∃ f, fu = f + 1 := ⟨fu - 1, by omega⟩
    have H := C.1
    refine ⟨M, ?_, RQ_refl 0 M, P, C, V, G, by show n ≤ 24; omega, by show d ≤ 7; rw [hd]; exact zb i (by omega)⟩
    show BM_runScript_14 (LM_runScript_14 f) 1003 (nI sn) (hI r) (nI i) M = _
    unfold BM_runScript_14
    rw [ms_ob H, gd1n, ms_g12 H, d_nz (by omega), gd1n, ms_r12 H (show sn < 5 by omega), gd1n, n_cl (by omega), h3, if_pos (of_eq_true (n_leT (by omega) (by omega)))]
    rfl
  | succ k ih =>
    intro i fu β M S n d g hi hf P C V G hn hd hβ h3 hS
    obtain ⟨f, rfl⟩ : ∃ f, fu = f + 1 := ⟨fu - 1, by omega⟩
    have H := C.1
    obtain ⟨tk, z6, z0⟩ := hg.2 i (by omega)
    have ns : ¬ nI st ≤ nI i := of_eq_false (n_leF (by omega) (by omega))
    have head : LM_runScript_14 (f + 1) 1003 (nI sn) (hI r) (nI i) M = (fM_canStep 1003 (nI sn) (nI i) (nI 0) M).bind fun q4 => if q4.1 = 0 then (some (nI i, q4.2)) else (gd (obM q4.2 1003 11 34) <| (fM_doStep 1003 (nI sn) (nI i) (nI 0) (hI r) q4.2).bind fun q5 => LM_runScript_14 f 1003 (nI sn) (hI r) (nI i + 1) q5) := by
      show BM_runScript_14 (LM_runScript_14 f) 1003 (nI sn) (hI r) (nI i) M = _
      unfold BM_runScript_14
      rw [ms_ob H, gd1n, ms_g12 H, d_nz (by omega), gd1n, ms_r12 H (show sn < 5 by omega), gd1n, n_cl (by omega), h3, if_neg ns]
      rfl
    rw [head]
    rcases mStep (t := sg i) (r := r) (sd := 0) hsn (by omega) (by omega) P C V G (by omega) (by omega) (by omega) (fun e => ⟨by rw [hd]; exact z0 e, rfl⟩) tk (hS i (by omega)) with ⟨j1, j2⟩ | ⟨M1, x, j1, j3, j2, F1, P1, C1⟩
    · have er : rnS ρ r sg (k + 1) i (S, n, d, g) = (i, S, n, d, g) := by
        unfold rnS
        rw [j2]
      rw [er, j1, bs1n, if_pos (show ((nI 0, M) : Int32 × Mem).1 = 0 from rfl)]
      exact ⟨M, rfl, RQ_refl 0 M, P, C, OKS_mono (by omega) V, G, by show n ≤ 24; omega, by show d ≤ 7; omega⟩
    · have er : rnS ρ r sg (k + 1) i (S, n, d, g) = rnS ρ r sg k (i + 1) x := by
        show (match stp ρ r (sg i) (S, n, d, g) with | none => (i, S, n, d, g) | some x' => rnS ρ r sg k (i + 1) x') = _
        rw [j2]
      obtain ⟨V1, G1, n1, d1⟩ := stp_ok hR V G j2 tk.1
      obtain ⟨S1, n', d', g'⟩ := x
      have n1 : n' ≤ n + 1 := n1
      have d1 : d' = scp (sg i).1 d := d1
      obtain ⟨M2, k2, F2, r2⟩ := ih (i + 1) f (β + 1) M1 S1 n' d' g' (by omega) (by omega) P1 C1 V1 G1 (by omega) (by rw [d1, hd]; rfl) (by omega) (by rw [F1.2.1 1010 (by omega) (by omega) (by omega)]; exact h3) (fun j hj => STm_Q F1 (hS j hj))
      rw [er, j1, bs1n, if_neg (show ¬ ((nI 1, M) : Int32 × Mem).1 = 0 from (show ¬ nI 1 = 0 by decide)), ms_ob H, gd1n, j3, bs1n, l_1, n_add]
      refine ⟨M2, k2, RQ_tr F1 F2, ?_⟩
      rw [show β + (k + 1) = β + 1 + k by omega]
      exact r2
theorem mCls (hR : RuOK ρ) (hn : n ≤ 24) (v3 : Int32) : ∀ e fu M S g, e ≤ 7 → e < fu → PGm M 0 n e g → RC M ρ S → OKS ρ β S → GOK ρ S n g → ∃ M', LM_runScript_48 fu 1003 v3 M = some (v3, M') ∧ RQ 0 M M' ∧ RC M' ρ (cls ρ n e S g) ∧ OKS ρ β (cls ρ n e S g) := by
  intro e
  induction e with
  | zero =>
    intro fu M S g he hf P C V G
    obtain ⟨f, rfl⟩ : ∃ f, fu = f + 1 := ⟨fu - 1, by omega⟩
    refine ⟨M, ?_, RQ_refl 0 M, C, V⟩
    show BM_runScript_48 (LM_runScript_48 f) 1003 v3 M = _
    unfold BM_runScript_48
    rw [ms_ob C.1, gd1n, P.2.1, if_pos (show nI 0 ≤ 0 by decide)]
  | succ e ih =>
    intro fu M S g he hf P C V G
    obtain ⟨f, rfl⟩ : ∃ f, fu = f + 1 := ⟨fu - 1, by omega⟩
    obtain ⟨M1, k1, F1, P1, C1⟩ := mEnd hn (show 0 < e + 1 by omega) he P C V G
    obtain ⟨V1, G1⟩ := eS_ok (d := e + 1) hR n S g (Nat.le_refl n) V G
    obtain ⟨M2, k2, F2, r2⟩ := ih f M1 _ _ (by omega) (by omega) P1 C1 V1 G1
    refine ⟨M2, ?_, RQ_tr F1 F2, r2⟩
    show BM_runScript_48 (LM_runScript_48 f) 1003 v3 M = _
    unfold BM_runScript_48
    rw [ms_ob C.1, gd1n, P.2.1, if_neg (show ¬ nI (e + 1) ≤ 0 from of_eq_false (n_leF (a := e + 1) (b := 0) (by omega) (by omega))), k1, bs1n]
    exact k2
theorem mRunW (hR : RuOK ρ) (hsn : sn ≤ 4) (hg : SGO sg st) (C : RC M ρ S) (V : OKS ρ β S) (hβ : β + 24 < 2000000000) (h3 : giM M 1010 sn = nI st) (hS : ∀ j, j < st → STm M (3 * (24 * sn + j)) (sg j)) : ∃ M', fM_runScript 1003 (nI sn) (hI r) M = some (nI (runA ρ r sg st S).1, M') ∧ RQ 0 M M' ∧ RC M' ρ (runA ρ r sg st S).2 ∧ OKS ρ (β + 24) (runA ρ r sg st S).2 := by
  have st24 := hg.1
  have H := C.1
  have F0 : RQ 0 M (siM (siM M 1017 0 (nI 0)) 1003 23 (nI 0)) := RQ_tr RQ_17 RQ_23
  have P0 : PGm (siM (siM M 1017 0 (nI 0)) 1003 23 (nI 0)) 0 0 0 g00 := ⟨by rw [giM_un (by omega), giM_ud, ud_s], by rw [giM_ud, ud_s], fun r hr => by omega⟩
  have C0 : RC (siM (siM M 1017 0 (nI 0)) 1003 23 (nI 0)) ρ S := RC_RQ C F0 (by rw [giM_un (by omega), giM_un (by omega)])
  obtain ⟨M1, k1, F1, P1, C1, V1, G1, n1, d1⟩ := mRunL (r := r) hR hsn hg st 0 1000000 β _ S 0 0 g00 (by omega) (by omega) P0 C0 V ⟨fun r hr => by omega, fun r r' hr => by omega⟩ (by omega) rfl (by omega) (by rw [F0.2.1 1010 (by omega) (by omega) (by omega)]; exact h3) (fun j hj => STm_Q F0 (hS j hj))
  obtain ⟨M2, k2, F2, C2, V2⟩ := mCls hR n1 (nI (rnS ρ r sg st 0 (S, 0, 0, g00)).1) _ 1000000 M1 _ _ d1 (by omega) P1 C1 V1 G1
  refine ⟨M2, ?_, RQ_tr F0 (RQ_tr F1 F2), C2, OKS_mono (by omega) V2⟩
  have k1 : LM_runScript_14 1000000 1003 (nI sn) (hI r) 0 (siM (siM M 1017 0 0) 1003 23 0) = some (nI (rnS ρ r sg st 0 (S, 0, 0, g00)).1, M1) := k1
  have w0 : wrI M 1017 0 = true := ar_wr (ms_a22 H) (i := 0) (by omega)
  unfold fM_runScript
  rw [ms_ob H, gd1n, ms_g22 H, d_nz (by omega), gd1n, w0, gd1n, show Int32.toNatClampNeg 0 = 0 from rfl, k1, bs1n, k2, bs1n]
  rfl
/-- the end of an act that used rows of both sides for itself -/
def RY (M M' : Mem) : Prop := M'.2 = M.2 ∧ (∀ a, a < 1003 ∨ a = 1004 ∨ (1007 ≤ a ∧ a ≤ 1010) ∨ a = 1012 ∨ a = 1020 ∨ 1021 < a → giM M' a = giM M a) ∧ ∀ k, k = 2 ∨ k = 10 ∨ k = 13 ∨ k = 33 → giM M' 1003 k = giM M 1003 k
def FC (M M' : Mem) : Prop := M'.2 = M.2 ∧ ∀ a, a < 33 ∨ (771 < a ∧ a < 791) ∨ 1002 < a → giM M' a = giM M a
theorem fin_act3 {β' b o m : Nat} {S' S2 : HSt} {T : Nat → HSt} {M4 : Mem} {v : Int32} {x y : Mem → Option (Int32 × Mem)} (hβ : β ≤ β') (A : SHP M) (tp : TP M) (sc : SC M) (re : RE M) (hb : b = 0 ∨ b = 1) (I : IC M ρ β b S') (I' : IR M b S') (VI : b = 1 → OKS ρ β S') (ex : x M = some (v, M2)) (F : FC M M2) (C : CC M2 32 ρ β' S2) (ho : o < 40) (hm : m ≤ 40) (P : PC M2 ρ β' o m T) (ey : y M2 = some (v, M4)) (X : RY M2 M4) (C' : RC M4 ρ S2) (P' : PR M4 m T) (V : OKS ρ β' S2) (VT : ∀ j, j < m → OKS ρ β' (T j)) : ST2 x y M β' := by
  have s4 : M4.2 = M.2 := X.1.trans F.1
  have g4 : ∀ a, a < 33 ∨ (771 < a ∧ a < 791) ∨ a = 1004 ∨ (1007 ≤ a ∧ a ≤ 1010) ∨ a = 1012 ∨ a = 1020 ∨ 1021 < a → giM M4 a = giM M a := fun a ha => by rw [X.2.1 a (by omega), F.2 a (by omega)]
  have k4 : ∀ k, k = 2 ∨ k = 10 ∨ k = 13 ∨ k = 33 → giM M4 1003 k = giM M 1003 k := fun k hk => by rw [X.2.2 k hk, F.2 1003 (by omega)]
  refine ⟨v, M2, M4, ex, ey, ⟨SHP_2 A s4 (fun a h1 _ => g4 a (by omega)), ?_, ?_, ?_, Or.inr ⟨ρ, S2, ?_⟩⟩, SHP_2 A F.1 (fun a h1 _ => F.2 a (by omega)), ⟨F.2 5006 (by omega), by rw [tgM_2 F.1]⟩, ⟨g4 5006 (by omega), by rw [tgM_2 s4]⟩⟩
  · exact TP_cg tp (g4 2 (by omega)) (g4 3 (by omega)) (k4 2 (by omega)) (g4 1004 (by omega))
  · exact SC_cg sc (by rw [g4 1 (by omega)]) (fun a h1 h2 => g4 a (by omega)) (k4 13 (by omega)) (g4 1009 (by omega)) (g4 1010 (by omega))
  · exact RE_cg re (g4 790 (by omega)) (g4 1012 (by omega))
  · have x2 : ∀ a, a < 1003 → giM M4 a = giM M2 a := fun a ha => X.2.1 a (by omega)
    refine TD_mk ho hm hb (CC_cg C X.1 (fun a ha => x2 a (by omega))) ⟨by rw [x2 50 (by omega)]; exact P.1, by rw [x2 50 (by omega)]; exact P.2.1, fun j hj => CC_cg (P.2.2 j hj) X.1 (fun a ha => x2 a (by have := Nat.mod_lt (o + j) (show 0 < 40 by omega); omega))⟩ ⟨by rw [g4 1 (by omega)]; exact I.1, fun e => CC_mono hβ (CC_cg (I.2 e) s4 (fun a ha => g4 a (by omega)))⟩ C' P' ⟨(k4 33 (by omega)).trans I'.1, fun e => by rw [g4 1020 (by omega)]; exact I'.2 e⟩ V VT (fun e => OKS_mono hβ (VI e))
end MW
