/-! FROM THE ENTRY TO THE LAW'S LOOP: what is left is a statement of the pure memory alone -/
def swM (M : Mem) (xs : Nat → Int32) (L : Nat) : Mem := (fun a => if a = 5006 then xs else M.1 a, M.2.1, M.2.2.1, fun a => if a = 5006 then (100, L) else M.2.2.2.1 a, M.2.2.2.2)
/-- the memory when the law's loop begins -/
noncomputable def lawM (xs : Nat → Int32) (L : Nat) : Mem := swM Mc xs L
theorem mc_tg {a : Nat} (h : a ≤ 1021) : tgM Mc a = tgT 5 a := by
  have h1 := mc_tgB
  unfold tgB at h1
  have h2 := List.all_eq_true.mp (Bool.and_eq_true_iff.mp h1).1 a (List.mem_range.mpr (by omega))
  exact eq_of_beq h2
theorem mc_old {a : Nat} (h1 : 5000 < a) (h2 : a ≤ 5005) : tgM Mc a = (100, (oaM a).length) ∧ ∀ j, j < (oaM a).length → giM Mc a j = (oaM a).getD j 0 := by
  have h3 := mc_tgB
  unfold tgB at h3
  have h4 := List.all_eq_true.mp (Bool.and_eq_true_iff.mp h3).2 a (by
    have : a = 5001 ∨ a = 5002 ∨ a = 5003 ∨ a = 5004 ∨ a = 5005 := by omega
    rcases this with rfl | rfl | rfl | rfl | rfl <;> simp)
  have h5 := Bool.and_eq_true_iff.mp h4
  have e : tgT 5 a = (100, (oaM a).length) := by
    have : a = 5001 ∨ a = 5002 ∨ a = 5003 ∨ a = 5004 ∨ a = 5005 := by omega
    rcases this with rfl | rfl | rfl | rfl | rfl <;> rfl
  refine ⟨by rw [← e]; exact eq_of_beq h5.1, fun j hj => ?_⟩
  have h6 := List.all_eq_true.mp h5.2 j (List.mem_range.mpr (by rw [e]; exact hj))
  exact eq_of_beq h6
theorem mc_rb {a k : Nat} (h : a ≤ 1021) (ht : (tgM Mc a).1 < 100 ∨ 103 ≤ (tgM Mc a).1) (hk : k < (tgM Mc a).2) : grM Mc a k ≤ 5000 := by
  rw [mc_tg h] at ht hk
  have h3 : ((tgT 5 a).1 == 100 || (tgT 5 a).1 == 101 || (tgT 5 a).1 == 102) = false := by
    simp only [Bool.or_eq_false_iff, beq_eq_false_iff_ne]
    omega
  have hk2 : k < rkT a := by
    unfold rkT
    rw [h3]
    exact hk
  rw [mc_rf h hk2]
  exact rt_le h hk2
theorem tgM_sw {M : Mem} {xs : Nat → Int32} {L a : Nat} (h : a ≠ 5006) : tgM (swM M xs L) a = tgM M a := if_neg h
theorem giM_sw {M : Mem} {xs : Nat → Int32} {L a : Nat} (h : a ≠ 5006) : giM (swM M xs L) a = giM M a := if_neg h
theorem grM_sw {M : Mem} {xs : Nat → Int32} {L : Nat} : grM (swM M xs L) = grM M := rfl
theorem glM_sw {M : Mem} {xs : Nat → Int32} {L : Nat} : glM (swM M xs L) = glM M := rfl
theorem cnM_sw {M : Mem} {xs : Nat → Int32} {L : Nat} : cnM (swM M xs L) = cnM M := rfl
theorem tgM_sw5 {M : Mem} {xs : Nat → Int32} {L : Nat} : tgM (swM M xs L) 5006 = (100, L) := rfl
theorem giM_sw5 {M : Mem} {xs : Nat → Int32} {L : Nat} : giM (swM M xs L) 5006 = xs := rfl
theorem arrV_congr {cI : ClassId} {N : Nat} {f g : Nat → Value} (h : ∀ j, j < N → f j = g j) : arrV cI N f = arrV cI N g := by
  unfold arrV
  have : (fun j : Fin N => f j.val) = (fun j : Fin N => g j.val) := by
    funext j
    exact h j.val j.isLt
  rw [this]
theorem rfM_congr {ad ad' : Nat → Nat} (h : ∀ a, a ≤ 5000 → ad' a = ad a) {r : Nat} (hr : r ≤ 5000) : rfM ad' r = rfM ad r := by
  unfold rfM
  rw [h r hr]
/-- the same cells, with the script put in -/
theorem sw_at {D : va_G} {cA : Nat → ClassId} {ad ad' : Nat → Nat} {xs : Nat → Int32} {L : Nat} {H : Heap} (had : ∀ a, a ≤ 5000 → ad' a = ad a) {a : Nat} (ha : a ≤ 1021) (h : va_at D clsM (ad' a, ceM ad' cA Mc a) H) : va_at D clsM (ad a, ceM ad cA (lawM xs L) a) H := by
  rw [had a (by omega)] at h
  have hne : a ≠ 5006 := by omega
  have et : tgM (lawM xs L) a = tgM Mc a := tgM_sw hne
  have ei : giM (lawM xs L) a = giM Mc a := giM_sw hne
  have er : grM (lawM xs L) a = grM Mc a := congrFun grM_sw a
  have el : glM (lawM xs L) a = glM Mc a := congrFun glM_sw a
  have e1 : ceM ad cA (lawM xs L) a = ceM ad cA Mc a := ceM_eq et ei er el
  rw [e1]
  have hrb := @mc_rb a
  by_cases h1 : (tgM Mc a).1 < 100
  · have e2 : ceM ad' cA Mc a = ceM ad cA Mc a := by
      unfold ceM
      rw [if_pos h1, if_pos h1]
      congr 2
      apply List.map_congr_left
      intro k hk
      have hk' := List.mem_range.mp hk
      unfold fvM
      split
      · rfl
      · rfl
      · rw [rfM_congr had (hrb ha (Or.inl h1) hk')]
    rw [← e2]
    exact h
  · by_cases h2 : (tgM Mc a).1 < 102
    · have e2 : ceM ad' cA Mc a = ceM ad cA Mc a := by
        unfold ceM
        rw [if_neg h1, if_neg h1, if_pos h2, if_pos h2]
      rw [← e2]
      exact h
    · by_cases h3 : (tgM Mc a).1 = 102
      · have e2 : ceM ad' cA Mc a = ceM ad cA Mc a := by
          unfold ceM
          rw [if_neg h1, if_neg h1, if_neg h2, if_neg h2, if_pos h3, if_pos h3]
        rw [← e2]
        exact h
      · unfold ceM at h ⊢
        rw [if_neg h1, if_neg h2, if_neg h3] at h ⊢
        have e3 : arrV (cA ((tgM Mc a).1 - 100)) (tgM Mc a).2 (fun j => va_rf (rfM ad' (grM Mc a j))) = arrV (cA ((tgM Mc a).1 - 100)) (tgM Mc a).2 (fun j => va_rf (rfM ad (grM Mc a j))) := arrV_congr (fun j hj => by
          show va_rf (rfM ad' (grM Mc a j)) = va_rf (rfM ad (grM Mc a j))
          rw [rfM_congr had (hrb ha (Or.inr (by omega)) hj)])
        have h4 : H[ad a]? = some (arrV (cA ((tgM Mc a).1 - 100)) (tgM Mc a).2 (fun j => va_rf (rfM ad' (grM Mc a j)))) := h
        rw [e3] at h4
        exact h4
theorem zz_swap {s : State} {D : va_G} {cA : Nat → ClassId} {ad ad' : Nat → Nat} {X : CxM} {pc k n L : Nat} {xs : Nat → Int32} {L0 L1 : List (Nat × Value)} (had : ∀ a, a ≤ 5000 → ad' a = ad a) (hx : exM (s, D, cA, ad, false) (lawM xs L)) (hL : L0.map (fun q => (q.1, rvM ad' q.2)) = L1.map (fun q => (q.1, rvM ad q.2)))
    (kk : ZM (s, D, cA, ad, false) X pc L1 [] (lawM xs L) k n) : ZM (s, D, cA, ad', true) X pc L0 [] Mc k n := by
  obtain ⟨p, l, e, R, s', m, args, below, meth, c, nL, Q, d⟩ := X
  intro H locs ls hW h
  have hcl : cnM (lawM xs L) = 1021 := cnM_sw.trans mc_cn
  obtain ⟨hP, hD, hS, -, -, -⟩ := hW
  have hget : ∀ (j : Nat) (q : Nat × va_E), (wsM (s, D, cA, ad, false) (lawM xs L))[j]? = some q → j + 1 ≤ 1021 ∧ q = (ad (j + 1), ceM ad cA (lawM xs L) (j + 1)) ∧ (wsM (s, D, cA, ad', true) Mc)[j]? = some (ad' (j + 1), ceM ad' cA Mc (j + 1)) := by
    intro j q hq
    have hj : j < (wsM (s, D, cA, ad, false) (lawM xs L)).length := (List.getElem?_eq_some_iff.mp hq).1
    have hj2 : j < 1021 := by
      have h9 := hj
      unfold wsM at h9
      rw [List.length_map, List.length_range, hcl] at h9
      exact h9
    have o1 : ownM (lawM xs L) (j + 1) = true := decide_eq_true ⟨Nat.succ_pos _, by rw [hcl]; omega⟩
    have o2 : ownM Mc (j + 1) = true := decide_eq_true ⟨Nat.succ_pos _, by rw [mc_cn]; omega⟩
    have g1 := wsM_at (G := (s, D, cA, ad, false)) o1
    have g2 := wsM_at (G := (s, D, cA, ad', true)) o2
    rw [Nat.add_sub_cancel] at g1 g2
    exact ⟨by omega, Option.some.inj (hq.symm.trans g1), g2⟩
  refine kk H locs ls ⟨?_, ⟨?_, ?_⟩, hS, hx, by rw [hcl]; decide, fun g => by cases g⟩ ?_
  · intro j q hq
    obtain ⟨h1, rfl, h3⟩ := hget j q hq
    exact sw_at had h1 (hP j _ h3)
  · intro i j q r hq hr e
    obtain ⟨h1, rfl, h3⟩ := hget i q hq
    obtain ⟨h4, rfl, h6⟩ := hget j r hr
    refine hD.1 i j _ _ h3 h6 ?_
    show ad' (i + 1) = ad' (j + 1)
    rw [had _ (by omega), had _ (by omega)]
    exact e
  · intro j q hq
    obtain ⟨h1, rfl, h3⟩ := hget j q hq
    have h9 := hD.2 j _ h3
    show szM (s, D, cA, ad, false) ≤ ad (j + 1)
    rw [← had _ (by omega)]
    exact h9
  · show lv_has ls nL (L1.map (fun q => (q.1, rvM ad q.2)))
    rw [← hL]
    exact h
/-- the world before anything is made -/
theorem w0_ok {s : State} {D : va_G} {cA : Nat → ClassId} {ad : Nat → Nat} (hx : ∀ x, 5000 < x → x ≤ 5006 → va_T .int (ad x) (oaM (if x = 5006 then 5001 else x)).length (fun j => .int ((oaM (if x = 5006 then 5001 else x)).getD j 0)) (fun q => s.heap.size ≤ q) s s.heap) : WbM (s, D, cA, ad, true) M0d s.heap [] := by
  refine ⟨fun k q h => (by cases h), ⟨fun i j p q h => (by cases h), fun k q h => (by cases h)⟩, ⟨Nat.le_refl _, fun _ _ _ => rfl, fun _ h => (by cases h)⟩, fun x h1 h2 => ?_, Nat.zero_le _, fun _ => rfl⟩
  have e : tgM M0d x = (100, (oaM (if x = 5006 then 5001 else x)).length) := by
    have : x = 5001 ∨ x = 5002 ∨ x = 5003 ∨ x = 5004 ∨ x = 5005 ∨ x = 5006 := by omega
    rcases this with rfl | rfl | rfl | rfl | rfl | rfl <;> rfl
  rw [e]
  exact ⟨rfl, hx x h1 h2⟩
theorem gok_ad {s : State} {D : va_G} {cA : Nat → ClassId} {ad ad' : Nat → Nat} {f f' : Bool} (had : ∀ a, a ≠ 5006 → a ≠ 5007 → ad' a = ad a) (h : GokM (s, D, cA, ad, f)) : GokM (s, D, cA, ad', f') := by
  obtain ⟨h1, h2, h3, h4⟩ := h
  refine ⟨h1, h2, fun a a1 a2 => ?_, ?_⟩
  · show ad' a + 1 = s.heap.size + a
    rw [had a (by omega) (by omega)]
    exact h3 a a1 a2
  · obtain ⟨k1, k2, k3, k4, k5, k6, k7, k8, k9, k10⟩ := h4
    have e1 : (fun i => ad' (6001 + i)) = (fun i => ad (6001 + i)) := funext fun i => had _ (by omega) (by omega)
    have e2 : (fun i => ad' (7001 + i)) = (fun i => ad (7001 + i)) := funext fun i => had _ (by omega) (by omega)
    refine ⟨?_, ?_, ?_, ?_, ?_, ?_, ?_, ?_, ?_, k10⟩
    · show vk_S 3 lenS bytS (fun i => ad' (6001 + i)) (fun i => ad' (7001 + i)) (fun q => s.heap.size ≤ q) s s.heap
      rw [e1, e2]; exact k1
    · show vk_R "HomeFreed$Rules" 47 "tpubh" (ad' 6001) s
      rw [had 6001 (by decide) (by decide)]; exact k2
    · show vk_R "HomeFreed$Rules" 59 "z" (ad' 6002) s
      rw [had 6002 (by decide) (by decide)]; exact k3
    · show vk_R "HomeFreed$Script" 58 "gfxkm()" (ad' 6003) s
      rw [had 6003 (by decide) (by decide)]; exact k4
    · show va_Z "HomeFreed" "RULE_LEAST" "[I" (.ref (ad' 5001)) (fun q => s.heap.size ≤ q) s s.heap
      rw [had 5001 (by decide) (by decide)]; exact k5
    · show va_Z "HomeFreed" "RULE_MOST" "[I" (.ref (ad' 5002)) (fun q => s.heap.size ≤ q) s s.heap
      rw [had 5002 (by decide) (by decide)]; exact k6
    · show va_Z "HomeFreed" "RULE_USUAL" "[I" (.ref (ad' 5003)) (fun q => s.heap.size ≤ q) s s.heap
      rw [had 5003 (by decide) (by decide)]; exact k7
    · show va_Z "HomeFreed" "CLASS_LEAST" "[I" (.ref (ad' 5004)) (fun q => s.heap.size ≤ q) s s.heap
      rw [had 5004 (by decide) (by decide)]; exact k8
    · show va_Z "HomeFreed" "CLASS_MOST" "[I" (.ref (ad' 5005)) (fun q => s.heap.size ≤ q) s s.heap
      rw [had 5005 (by decide) (by decide)]; exact k9
theorem tx_ok {s : State} {D : va_G} {cA : Nat → ClassId} {ad : Nat → Nat} {f : Bool} {b : Nat} (hw : ∀ w ∈ lw_tbl, w.before #[Value.ref b] s = true) (h : ∀ c ∈ flatC (Jvm.Cond.and given_1 narrow_1), c.before #[Value.ref b] s = true) : TxM (s, D, cA, ad, f) := by
  have hA : ∀ a : Nat, a < s.heap.size → ¬ (s.heap.size ≤ a) := fun a q => Nat.not_le.mpr q
  obtain ⟨a, c, cA', kA, q1, -⟩ := Cond.exactly_spec (args := #[Value.ref b]) (first := s) (o := none) (s := s) (idx := []) (t := .string "HomeFreed" 151) (cls := "java/lang/String") (h _ (List.mem_of_getElem? (i := 125) rfl))
  exact ⟨⟨a, vk_R.of (A := #[Value.ref b]) (hw _ wd_1134) q1⟩, vx_Zqof (hw _ wd_1122) (hw _ wd_21) (h _ (List.mem_of_getElem? (i := 41) rfl)) hA, vx_Zqof (hw _ wd_1124) (hw _ wd_21) (h _ (List.mem_of_getElem? (i := 42) rfl)) hA⟩
set_option maxHeartbeats 4000000 in
theorem start_walk {p : Program} {e : Env} {s : State} {m : MethodId} {below : List Frame} {meth : Method} {c : Code} (l : Launch) (hflags : l.flags = flags0) {b L : Nat} {xs : Nat → Int32} (hL : L ≤ 3072) (C0 : lw_At p s m meth c b L xs) {M1 : Mem} (hp : fW_loop 1000 0 (lawM xs L) = some M1) :
    W p l e room_1 s m #[Value.ref b] below meth c s.heap [] 0 0 (lw_Z below #[Value.ref b] s) (entryFrame m ([Value.ref b] : List Value).toArray 7) := by
  obtain ⟨D, cA, ad, had, hGok, hold, hscr⟩ := start_ok hL C0
  obtain ⟨hexec, hcode, hret, hmL, hown, hw, hX, hbl, hlocks, hgv⟩ := C0
  have hfl := flat_of_before _ hgv
  have hst : l.stackTraces = false := by
    unfold Launch.stackTraces
    rw [hflags]
    decide +kernel
  obtain ⟨ad', had'⟩ : ∃ ad' : Nat → Nat, ad' = fun a => if a = 5006 then ad 5001 else if a = 5007 then b else ad a := ⟨_, rfl⟩
  have e0 : ∀ a, a ≠ 5006 → a ≠ 5007 → ad' a = ad a := fun a h1 h2 => by rw [had']; show (if a = 5006 then ad 5001 else if a = 5007 then b else ad a) = ad a; rw [if_neg h1, if_neg h2]
  have e6 : ad' 5006 = ad 5001 := by rw [had']; rfl
  have e7 : ad' 5007 = b := by rw [had']; rfl
  have e5 : ∀ a, a ≤ 5000 → ad' a = ad a := fun a h => e0 a (by omega) (by omega)
  have hG : GokM (s, D, cA, ad, false) := hGok false
  have hG' : GokM (s, D, cA, ad', true) := gok_ad e0 hG
  have hTx : TxM (s, D, cA, ad, false) := tx_ok hw hfl
  obtain ⟨X, hXe⟩ : ∃ X : CxM, X = (p, l, e, room_1, s, m, #[Value.ref b], below, meth, c, 7, lw_Z below #[Value.ref b] s, 100) := ⟨_, rfl⟩
  have hR : X.2.2.2.1 = room_1 := by rw [hXe]
  have hlX : X.2.1.stackTraces = false := by rw [hXe]; exact hst
  have N : mLM X = 7 := by rw [hXe]; rfl
  have hD : dpM X = 100 := by rw [hXe]; rfl
  have C : CoM (s, D, cA, ad, false) X code "HomeFreedLaw" := by rw [hXe]; exact ⟨hexec, hcode, hmL, hown, hlocks, State.WarmedH.refl s, hG, Nat.le_of_ble_eq_true rfl, Nat.le_of_ble_eq_true rfl⟩
  have C' : CoM (s, D, cA, ad', true) X code "HomeFreedLaw" := by rw [hXe]; exact ⟨hexec, hcode, hmL, hown, hlocks, State.WarmedH.refl s, hG', Nat.le_of_ble_eq_true rfl, Nat.le_of_ble_eq_true rfl⟩
  have hend : ZM (s, D, cA, ad, false) X 1457 [] [] M1 601024 7293034 := by
    refine zz_iconst (v := 1) C ddW_law_1457 (by decide) ?_
    rw [hXe]
    intro H locs ls hW h
    exact va_forget (fun q hq => hW.2.2.1.2.2 q hq) (lw_ret hexec hcode hret hlocks ddW_law_1458)
  have hx : exM (s, D, cA, ad, false) (lawM xs L) := by
    intro x h1 h2
    by_cases h3 : x = 5006
    · subst h3
      have et : tgM (lawM xs L) 5006 = (100, L) := tgM_sw5
      have ei : giM (lawM xs L) 5006 = xs := giM_sw5
      rw [et, ei]
      refine ⟨rfl, ?_⟩
      show va_T .int (ad 5006) L (fun j => .int (xs j)) (fun q => s.heap.size ≤ q) s s.heap
      rw [had]
      exact hscr
    · obtain ⟨g1, g2⟩ := mc_old h1 (by omega)
      have et : tgM (lawM xs L) x = tgM Mc x := tgM_sw h3
      have ei : giM (lawM xs L) x = giM Mc x := giM_sw h3
      rw [et, ei, g1]
      refine ⟨rfl, ?_⟩
      obtain ⟨cs, q1, q2, q3, q4, q5, q6, q7⟩ := hold x h1 (by omega)
      exact ⟨cs, q1, q2, q3, q4, q5, fun j hj => by rw [q6 j hj]; show some (Value.int _) = some (Value.int _); rw [g2 j hj], q7⟩
  have hloop : ZM (s, D, cA, ad, false) X 23 [(0, .ref 5006), (1, .ref 1), (2, .ref 1003), (3, .ref 1021), (4, .int 0)] [] (lawM xs L) 1021 300552 :=
    zW_loop hG C N hD (by decide) rfl hTx hlX ⟨by rw [hR]; exact Nat.le_refl _, by rw [hR]; exact Nat.le_refl _⟩ hend 1000 0 _ _ _ hp (by decide) (by decide)
  have hE := Mc_eq
  rw [← eConstr_eq] at hE
  have hmo := mc_mo
  rw [← eA_eq] at hmo
  unfold fConstr at hE
  obtain ⟨q1, hq1, hE⟩ := bindN hE
  obtain ⟨q2, hq2, hE⟩ := bindN hE
  obtain ⟨q3, hq3, hE⟩ := bindN hE
  obtain ⟨q4, hq4, hq5⟩ := bindN hE
  have n1 : cnM q1 = 1 := by
    obtain ⟨-, rfl⟩ := alF_p hq1
    rfl
  have n3 : cnM q3 = 1003 := by
    rw [hq1] at hmo
    have h9 : ((fA_init (cnM q1) q1).bind fun q2 => alF q2 11 34).map cnM = some 1003 := hmo
    rw [hq2] at h9
    have h8 : (alF q2 11 34).map cnM = some 1003 := h9
    rw [hq3] at h8
    exact Option.some.inj h8
  have hsw : ZM (s, D, cA, ad', true) X 23 [(4, .int 0), (3, .ref 1021), (2, .ref 1003), (1, .ref 1), (0, .ref 5007)] [] Mc 1021 300552 := by
    refine zz_loc (L1 := [(0, .ref 5007), (1, .ref 1), (2, .ref 1003), (3, .ref 1021), (4, .int 0)]) [4, 3, 2, 1, 0] rfl ?_
    refine zz_swap (L1 := [(0, .ref 5006), (1, .ref 1), (2, .ref 1003), (3, .ref 1021), (4, .int 0)]) e5 hx ?_ hloop
    show [(0, Value.ref (ad' 5007)), (1, Value.ref (ad' 1)), (2, Value.ref (ad' 1003)), (3, Value.ref (ad' 1021)), (4, Value.int 0)] = [(0, Value.ref (ad 5006)), (1, Value.ref (ad 1)), (2, Value.ref (ad 1003)), (3, Value.ref (ad 1021)), (4, Value.int 0)]
    rw [e7, had, e5 1 (by decide), e5 1003 (by decide), e5 1021 (by decide)]
  have hent : ZM (s, D, cA, ad', true) X 0 [(0, .ref 5007)] [] M0d 0 0 := by
    refine zz_new C' ddW_law_0 (t := 10) rfl rfl ⟨wd_25, wd_26, wd_1⟩ rfl hq1 ⟨by rw [hR]; exact Nat.le_of_ble_eq_true rfl, by rw [hR]; exact Nat.le_of_ble_eq_true rfl⟩ ?_
    refine zz_kn (k1 := 1) (n1 := 15) rfl rfl ?_
    refine zz_dup C' ddW_law_3 rfl ?_
    refine zz_callI (As := []) C' ddW_law_4 wd_27 my_A_init ⟨rfl, mi_A_init⟩ (xA_init hG' rfl 99 (by decide) hq2) (by rw [hD]; decide) rfl rfl (Nat.le_of_ble_eq_true rfl) ⟨by rw [hR]; exact Nat.le_of_ble_eq_true rfl, by rw [hR]; exact Nat.le_of_ble_eq_true rfl⟩ ?_
    refine zz_kn (k1 := 1002) (n1 := 87930) rfl rfl ?_
    rw [n1]
    refine zz_astore_n (L1 := [(1, .ref 1), (0, .ref 5007)]) C' ddW_law_7 rfl N (by decide) rfl ?_
    refine zz_new C' ddW_law_8 (t := 11) rfl rfl ⟨wd_1162, wd_1163, wd_13⟩ rfl hq3 ⟨by rw [hR]; exact Nat.le_of_ble_eq_true rfl, by rw [hR]; exact Nat.le_of_ble_eq_true rfl⟩ ?_
    refine zz_kn (k1 := 1003) (n1 := 87964) rfl rfl ?_
    refine zz_dup C' ddW_law_11 rfl ?_
    refine zz_callI (As := []) C' ddW_law_12 wd_1164 my_M_init ⟨rfl, mi_M_init⟩ (xM_init hG' rfl 99 (by decide) hq4) (by rw [hD]; decide) rfl rfl (Nat.le_of_ble_eq_true rfl) ⟨by rw [hR]; exact Nat.le_of_ble_eq_true rfl, by rw [hR]; exact Nat.le_of_ble_eq_true rfl⟩ ?_
    refine zz_kn (k1 := 1020) (n1 := 300551) rfl rfl ?_
    rw [n3]
    refine zz_astore_n (L1 := [(2, .ref 1003), (1, .ref 1), (0, .ref 5007)]) C' ddW_law_15 rfl N (by decide) rfl ?_
    refine zz_iconst (v := 1) C' ddW_law_16 (by decide) ?_
    refine zz_newL C' ddW_law_17 wd_1785 rfl (by decide) (by decide) hq5 ⟨by rw [hR]; exact Nat.le_of_ble_eq_true rfl, by rw [hR]; exact Nat.le_of_ble_eq_true rfl⟩ ?_
    refine zz_kn (k1 := 1021) (n1 := 300552) rfl rfl ?_
    rw [mc_cn]
    refine zz_astore_n (L1 := [(3, .ref 1021), (2, .ref 1003), (1, .ref 1), (0, .ref 5007)]) C' ddW_law_19 rfl N (by decide) rfl ?_
    refine zz_iconst (v := 0) C' ddW_law_20 (by decide) ?_
    refine zz_istore (L1 := [(4, .int 0), (3, .ref 1021), (2, .ref 1003), (1, .ref 1), (0, .ref 5007)]) C' ddW_law_21 N (by decide) rfl ?_
    exact hsw
  have hW0 : WbM (s, D, cA, ad', true) M0d s.heap [] := by
    refine w0_ok (fun x h1 h2 => ?_)
    by_cases h3 : x = 5006
    · subst h3
      rw [if_pos rfl, e6]
      exact hold 5001 (by decide) (by decide)
    · rw [if_neg h3, e0 x h3 (by omega)]
      exact hold x h1 (by omega)
  rw [lg_entry_eq]
  rw [hXe] at hent
  refine hent s.heap [] _ hW0 ?_
  have h2 := lv_entry ([Value.ref b] : List Value) (n := 7) (Nat.le_of_ble_eq_true rfl)
  show lv_has _ 7 [(0, Value.ref (ad' 5007))]
  rw [e7]
  exact h2
