/-! THE START: what the Statement gives of it, as the world of the pure memory has it -/
theorem st_inst : ∀ (t : Nat) (c : vw_C), clsM[t]? = some c → Cond.instantiable c.1 c.2.2 ∈ lw_tbl := by
  intro t c h
  match t, h with
  | 0, h => obtain rfl := Option.some.inj h; exact wd_125
  | 1, h => obtain rfl := Option.some.inj h; exact wd_119
  | 2, h => obtain rfl := Option.some.inj h; exact wd_153
  | 3, h => obtain rfl := Option.some.inj h; exact wd_222
  | 4, h => obtain rfl := Option.some.inj h; exact wd_202
  | 5, h => obtain rfl := Option.some.inj h; exact wd_231
  | 6, h => obtain rfl := Option.some.inj h; exact wd_51
  | 7, h => obtain rfl := Option.some.inj h; exact wd_69
  | 8, h => obtain rfl := Option.some.inj h; exact wd_91
  | 9, h => obtain rfl := Option.some.inj h; exact wd_34
  | 10, h => obtain rfl := Option.some.inj h; exact wd_26
  | 11, h => obtain rfl := Option.some.inj h; exact wd_1163
  | n + 12, h => exact absurd h (by simp [clsM])
theorem st_class {s : State} {a0 : Array Value} (h : ∀ w ∈ lw_tbl, w.before a0 s = true) : ∃ D : va_G, ∀ (c : Nat) (q : vw_C), clsM[c]? = some q → u_Kn s q.1 q.2.1 q.2.2 (D.1 c) (D.2 c) := by
  have h0 : ∀ c : Nat, ∃ x : ClassId × (Nat → Nat), ∀ q : vw_C, clsM[c]? = some q → u_Kn s q.1 q.2.1 q.2.2 x.1 x.2 := by
    intro c
    cases hc : clsM[c]? with
    | none => exact ⟨(default, fun _ => 0), fun q hq => by cases hq⟩
    | some q =>
      obtain ⟨cC, iS, hk⟩ := u_known (fun w hw => h w ((clM_ok c q hc).2.2.2 w hw).1) (fun w hw => hw) (h _ (st_inst c q hc))
      exact ⟨(cC, iS), fun q' hq' => by cases hq'; exact hk⟩
  obtain ⟨f, hf⟩ := Classical.axiomOfChoice h0
  exact ⟨(fun c => (f c).1, fun c => (f c).2), fun c q hq => hf c q hq⟩
theorem st_arr {s : State} {a0 : Array Value} (h : ∀ w ∈ lw_tbl, w.before a0 s = true) : ∃ cA : Nat → ClassId, ∀ (k : Nat) (q : ClassId × FieldType), (tysM cA)[k]? = some q → ArrOfT s q.1 q.2 ∧ va_RA s q.1 q.2 := by
  obtain ⟨c0, k0, m0, a1, a2, a3⟩ := Cond.arrayClass_spec (h _ wd_49)
  obtain ⟨c1, k1, m1, b1, b2, b3⟩ := Cond.arrayClass_spec (h _ wd_1273)
  obtain ⟨c2, k2, m2, d1, d2, d3⟩ := Cond.arrayClass_spec (h _ wd_1785)
  obtain ⟨m3, c3, k3, e1, -, e2, e3, e4⟩ := Cond.arrayOver_spec (h _ wd_208)
  obtain ⟨m4, c4, k4, f1, -, f2, f3, f4⟩ := Cond.arrayOver_spec (h _ wd_90)
  obtain ⟨m5, c5, k5, g1, -, g2, g3, g4⟩ := Cond.arrayOver_spec (h _ wd_229)
  refine ⟨fun k => match k with | 0 => c0 | 1 => c1 | 2 => c2 | 3 => c3 | 4 => c4 | _ => c5, ?_⟩
  intro k q hq
  match k, hq with
  | 0, hq => obtain rfl := Option.some.inj hq; exact ⟨fun N z => ⟨(fun k h => by cases h), k0, a2, m0, a3⟩, a1⟩
  | 1, hq => obtain rfl := Option.some.inj hq; exact ⟨fun N z => ⟨(fun k h => by cases h), k1, b2, m1, b3⟩, b1⟩
  | 2, hq => obtain rfl := Option.some.inj hq; exact ⟨fun N z => ⟨(fun k h => by cases h), k2, d2, m2, d3⟩, d1⟩
  | 3, hq => obtain rfl := Option.some.inj hq; exact ⟨fun N z => ⟨(fun k h => by cases h), k3, e2, m3, e3⟩, k3, m3, e2, e3, e1, e4⟩
  | 4, hq => obtain rfl := Option.some.inj hq; exact ⟨fun N z => ⟨(fun k h => by cases h), k4, f2, m4, f3⟩, k4, m4, f2, f3, f1, f4⟩
  | 5, hq => obtain rfl := Option.some.inj hq; exact ⟨fun N z => ⟨(fun k h => by cases h), k5, g2, m5, g3⟩, k5, m5, g2, g3, g1, g4⟩
  | n + 6, hq => exact absurd hq (by simp [tysM])
/-- what the old arrays hold -/
def oaM (x : Nat) : List Int32 := match x with
  | 5001 => [1, 1, 4, 1, 1]
  | 5002 => [4, 16, 40, 9, 30]
  | 5003 => [2, 6, 16, 3, 8]
  | 5004 => [1]
  | 5005 => [40]
  | _ => []
theorem st_5001 {s : State} {b : Nat} {A : Nat → Prop} (hw : ∀ w ∈ lw_tbl, w.before #[Value.ref b] s = true) (h : ∀ c ∈ flatC (Jvm.Cond.and given_1 narrow_1), c.before #[Value.ref b] s = true) (hA : ∀ a : Nat, a < s.heap.size → ¬ A a) : ∃ t : Nat, va_T .int t 5 (fun j => .int ((oaM 5001).getD j 0)) A s s.heap ∧ va_Z "HomeFreed" "RULE_LEAST" "[I" (.ref t) A s s.heap := by
  have hel : ∀ j : Nat, j < 5 → (Term.elem (Term.static "HomeFreed" "RULE_LEAST" "[I") (.int (Int32.ofNat j))).eval #[Value.ref b] s none [] s = some (.int ((oaM 5001).getD j 0)) := by
    intro j hj
    match j, hj with
    | 0, _ => exact va_eqt (h _ (List.mem_of_getElem? (i := 15) rfl))
    | 1, _ => exact va_eqt (h _ (List.mem_of_getElem? (i := 16) rfl))
    | 2, _ => exact va_eqt (h _ (List.mem_of_getElem? (i := 17) rfl))
    | 3, _ => exact va_eqt (h _ (List.mem_of_getElem? (i := 18) rfl))
    | 4, _ => exact va_eqt (h _ (List.mem_of_getElem? (i := 19) rfl))
  obtain ⟨t, h1, h2⟩ := va_Tof (f := fun j => .int ((oaM 5001).getD j 0)) (A := A) (N := 5) (by decide) (h _ (List.mem_of_getElem? (i := 13) rfl)) (va_eqt (h _ (List.mem_of_getElem? (i := 14) rfl))) hel hA
  exact ⟨t, h2, va_Zof (hw _ wd_381) (hw _ wd_1) h1 hA⟩
theorem st_5002 {s : State} {b : Nat} {A : Nat → Prop} (hw : ∀ w ∈ lw_tbl, w.before #[Value.ref b] s = true) (h : ∀ c ∈ flatC (Jvm.Cond.and given_1 narrow_1), c.before #[Value.ref b] s = true) (hA : ∀ a : Nat, a < s.heap.size → ¬ A a) : ∃ t : Nat, va_T .int t 5 (fun j => .int ((oaM 5002).getD j 0)) A s s.heap ∧ va_Z "HomeFreed" "RULE_MOST" "[I" (.ref t) A s s.heap := by
  have hel : ∀ j : Nat, j < 5 → (Term.elem (Term.static "HomeFreed" "RULE_MOST" "[I") (.int (Int32.ofNat j))).eval #[Value.ref b] s none [] s = some (.int ((oaM 5002).getD j 0)) := by
    intro j hj
    match j, hj with
    | 0, _ => exact va_eqt (h _ (List.mem_of_getElem? (i := 23) rfl))
    | 1, _ => exact va_eqt (h _ (List.mem_of_getElem? (i := 24) rfl))
    | 2, _ => exact va_eqt (h _ (List.mem_of_getElem? (i := 25) rfl))
    | 3, _ => exact va_eqt (h _ (List.mem_of_getElem? (i := 26) rfl))
    | 4, _ => exact va_eqt (h _ (List.mem_of_getElem? (i := 27) rfl))
  obtain ⟨t, h1, h2⟩ := va_Tof (f := fun j => .int ((oaM 5002).getD j 0)) (A := A) (N := 5) (by decide) (h _ (List.mem_of_getElem? (i := 21) rfl)) (va_eqt (h _ (List.mem_of_getElem? (i := 22) rfl))) hel hA
  exact ⟨t, h2, va_Zof (hw _ wd_383) (hw _ wd_1) h1 hA⟩
theorem st_5003 {s : State} {b : Nat} {A : Nat → Prop} (hw : ∀ w ∈ lw_tbl, w.before #[Value.ref b] s = true) (h : ∀ c ∈ flatC (Jvm.Cond.and given_1 narrow_1), c.before #[Value.ref b] s = true) (hA : ∀ a : Nat, a < s.heap.size → ¬ A a) : ∃ t : Nat, va_T .int t 5 (fun j => .int ((oaM 5003).getD j 0)) A s s.heap ∧ va_Z "HomeFreed" "RULE_USUAL" "[I" (.ref t) A s s.heap := by
  have hel : ∀ j : Nat, j < 5 → (Term.elem (Term.static "HomeFreed" "RULE_USUAL" "[I") (.int (Int32.ofNat j))).eval #[Value.ref b] s none [] s = some (.int ((oaM 5003).getD j 0)) := by
    intro j hj
    match j, hj with
    | 0, _ => exact va_eqt (h _ (List.mem_of_getElem? (i := 7) rfl))
    | 1, _ => exact va_eqt (h _ (List.mem_of_getElem? (i := 8) rfl))
    | 2, _ => exact va_eqt (h _ (List.mem_of_getElem? (i := 9) rfl))
    | 3, _ => exact va_eqt (h _ (List.mem_of_getElem? (i := 10) rfl))
    | 4, _ => exact va_eqt (h _ (List.mem_of_getElem? (i := 11) rfl))
  obtain ⟨t, h1, h2⟩ := va_Tof (f := fun j => .int ((oaM 5003).getD j 0)) (A := A) (N := 5) (by decide) (h _ (List.mem_of_getElem? (i := 5) rfl)) (va_eqt (h _ (List.mem_of_getElem? (i := 6) rfl))) hel hA
  exact ⟨t, h2, va_Zof (hw _ wd_359) (hw _ wd_1) h1 hA⟩
theorem st_5004 {s : State} {b : Nat} {A : Nat → Prop} (hw : ∀ w ∈ lw_tbl, w.before #[Value.ref b] s = true) (h : ∀ c ∈ flatC (Jvm.Cond.and given_1 narrow_1), c.before #[Value.ref b] s = true) (hA : ∀ a : Nat, a < s.heap.size → ¬ A a) : ∃ t : Nat, va_T .int t 1 (fun j => .int ((oaM 5004).getD j 0)) A s s.heap ∧ va_Z "HomeFreed" "CLASS_LEAST" "[I" (.ref t) A s s.heap := by
  have hel : ∀ j : Nat, j < 1 → (Term.elem (Term.static "HomeFreed" "CLASS_LEAST" "[I") (.int (Int32.ofNat j))).eval #[Value.ref b] s none [] s = some (.int ((oaM 5004).getD j 0)) := by
    intro j hj
    match j, hj with
    | 0, _ => exact va_eqt (h _ (List.mem_of_getElem? (i := 36) rfl))
  obtain ⟨t, h1, h2⟩ := va_Tof (f := fun j => .int ((oaM 5004).getD j 0)) (A := A) (N := 1) (by decide) (h _ (List.mem_of_getElem? (i := 34) rfl)) (va_eqt (h _ (List.mem_of_getElem? (i := 35) rfl))) hel hA
  exact ⟨t, h2, va_Zof (hw _ wd_499) (hw _ wd_1) h1 hA⟩
theorem st_5005 {s : State} {b : Nat} {A : Nat → Prop} (hw : ∀ w ∈ lw_tbl, w.before #[Value.ref b] s = true) (h : ∀ c ∈ flatC (Jvm.Cond.and given_1 narrow_1), c.before #[Value.ref b] s = true) (hA : ∀ a : Nat, a < s.heap.size → ¬ A a) : ∃ t : Nat, va_T .int t 1 (fun j => .int ((oaM 5005).getD j 0)) A s s.heap ∧ va_Z "HomeFreed" "CLASS_MOST" "[I" (.ref t) A s s.heap := by
  have hel : ∀ j : Nat, j < 1 → (Term.elem (Term.static "HomeFreed" "CLASS_MOST" "[I") (.int (Int32.ofNat j))).eval #[Value.ref b] s none [] s = some (.int ((oaM 5005).getD j 0)) := by
    intro j hj
    match j, hj with
    | 0, _ => exact va_eqt (h _ (List.mem_of_getElem? (i := 40) rfl))
  obtain ⟨t, h1, h2⟩ := va_Tof (f := fun j => .int ((oaM 5005).getD j 0)) (A := A) (N := 1) (by decide) (h _ (List.mem_of_getElem? (i := 38) rfl)) (va_eqt (h _ (List.mem_of_getElem? (i := 39) rfl))) hel hA
  exact ⟨t, h2, va_Zof (hw _ wd_501) (hw _ wd_1) h1 hA⟩
def tmS (i : Nat) : Term := match i with
  | 0 => .string "HomeFreed$Rules" 47
  | 1 => .string "HomeFreed$Rules" 59
  | _ => .string "HomeFreed$Script" 58
theorem st_txt {s : State} {b : Nat} {A : Nat → Prop} (hw : ∀ w ∈ lw_tbl, w.before #[Value.ref b] s = true) (h : ∀ c ∈ flatC (Jvm.Cond.and given_1 narrow_1), c.before #[Value.ref b] s = true) (hA : ∀ a : Nat, a < s.heap.size → ¬ A a) : ∃ adK adV : Nat → Nat, vk_S 3 lenS bytS adK adV A s s.heap ∧ ∀ i : Nat, i < 3 → (tmS i).eval #[Value.ref b] s none [] s = some (.ref (adK i)) := by
  refine vk_Sof (tm := tmS) (by decide) (fun i hi => match i, hi with | 0, _ => h _ (List.mem_of_getElem? (i := 97) rfl) | 1, _ => h _ (List.mem_of_getElem? (i := 106) rfl) | 2, _ => h _ (List.mem_of_getElem? (i := 112) rfl)) (fun i hi => match i, hi with | 0, _ => h _ (List.mem_of_getElem? (i := 98) rfl) | 1, _ => h _ (List.mem_of_getElem? (i := 107) rfl) | 2, _ => h _ (List.mem_of_getElem? (i := 113) rfl)) (fun i hi => match i, hi with | 0, _ => h _ (List.mem_of_getElem? (i := 99) rfl) | 1, _ => h _ (List.mem_of_getElem? (i := 108) rfl) | 2, _ => h _ (List.mem_of_getElem? (i := 114) rfl)) (fun i hi => match i, hi with | 0, _ => h _ (List.mem_of_getElem? (i := 100) rfl) | 1, _ => h _ (List.mem_of_getElem? (i := 109) rfl) | 2, _ => h _ (List.mem_of_getElem? (i := 115) rfl)) ?_ ?_ hA
  · intro i hi j hj
    match i, hi with
    | 0, _ =>
      match j, hj with
      | 0, _ => exact h _ (List.mem_of_getElem? (i := 101) rfl)
      | 1, _ => exact h _ (List.mem_of_getElem? (i := 102) rfl)
      | 2, _ => exact h _ (List.mem_of_getElem? (i := 103) rfl)
      | 3, _ => exact h _ (List.mem_of_getElem? (i := 104) rfl)
      | 4, _ => exact h _ (List.mem_of_getElem? (i := 105) rfl)
    | 1, _ =>
      match j, hj with
      | 0, _ => exact h _ (List.mem_of_getElem? (i := 110) rfl)
    | 2, _ =>
      match j, hj with
      | 0, _ => exact h _ (List.mem_of_getElem? (i := 116) rfl)
      | 1, _ => exact h _ (List.mem_of_getElem? (i := 117) rfl)
      | 2, _ => exact h _ (List.mem_of_getElem? (i := 118) rfl)
      | 3, _ => exact h _ (List.mem_of_getElem? (i := 119) rfl)
      | 4, _ => exact h _ (List.mem_of_getElem? (i := 120) rfl)
      | 5, _ => exact h _ (List.mem_of_getElem? (i := 121) rfl)
      | 6, _ => exact h _ (List.mem_of_getElem? (i := 122) rfl)
  · intro i j hi hj hij
    match i, j, hi, hj, hij with
    | 0, 0, _, _, q => exact absurd rfl q
    | 0, 1, _, _, _ => exact Or.inl (h _ (List.mem_of_getElem? (i := 111) rfl))
    | 0, 2, _, _, _ => exact Or.inl (h _ (List.mem_of_getElem? (i := 123) rfl))
    | 1, 0, _, _, _ => exact Or.inr (h _ (List.mem_of_getElem? (i := 111) rfl))
    | 1, 1, _, _, q => exact absurd rfl q
    | 1, 2, _, _, _ => exact Or.inl (h _ (List.mem_of_getElem? (i := 124) rfl))
    | 2, 0, _, _, _ => exact Or.inr (h _ (List.mem_of_getElem? (i := 123) rfl))
    | 2, 1, _, _, _ => exact Or.inr (h _ (List.mem_of_getElem? (i := 124) rfl))
    | 2, 2, _, _, q => exact absurd rfl q
theorem start_ok {p : Program} {s : State} {m : MethodId} {meth : Method} {c : Code} {b L : Nat} {xs : Nat → Int32} (hL : L ≤ 3072) (C0 : lw_At p s m meth c b L xs) : ∃ (D : va_G) (cA : Nat → ClassId) (ad : Nat → Nat), ad 5006 = b ∧ (∀ f : Bool, GokM (s, D, cA, ad, f)) ∧ (∀ x, 5000 < x → x ≤ 5005 → va_T .int (ad x) (oaM x).length (fun j => .int ((oaM x).getD j 0)) (fun q => s.heap.size ≤ q) s s.heap) ∧ va_T .int b L (fun j => .int (xs j)) (fun q => s.heap.size ≤ q) s s.heap := by
  obtain ⟨-, -, -, -, -, hw, hX, hbl, -, hgv⟩ := C0
  have h := flat_of_before _ hgv
  have hA : ∀ a : Nat, a < s.heap.size → ¬ (s.heap.size ≤ a) := fun a q => Nat.not_le.mpr q
  obtain ⟨D, hD⟩ := st_class hw
  obtain ⟨cA, hcA⟩ := st_arr hw
  obtain ⟨t1, T1, Z1⟩ := st_5001 (A := fun q => s.heap.size ≤ q) hw h hA
  obtain ⟨t2, T2, Z2⟩ := st_5002 (A := fun q => s.heap.size ≤ q) hw h hA
  obtain ⟨t3, T3, Z3⟩ := st_5003 (A := fun q => s.heap.size ≤ q) hw h hA
  obtain ⟨t4, T4, Z4⟩ := st_5004 (A := fun q => s.heap.size ≤ q) hw h hA
  obtain ⟨t5, T5, Z5⟩ := st_5005 (A := fun q => s.heap.size ≤ q) hw h hA
  obtain ⟨adK, adV, hV, hT⟩ := st_txt (A := fun q => s.heap.size ≤ q) hw h hA
  refine ⟨D, cA, fun a => if a ≤ 5000 then s.heap.size + a - 1 else if a = 5001 then t1 else if a = 5002 then t2 else if a = 5003 then t3 else if a = 5004 then t4 else if a = 5005 then t5 else if a = 5006 then b else if a ≤ 7000 then adK (a - 6001) else adV (a - 7001), rfl, ?_, ?_, ?_⟩
  · intro f
    refine ⟨⟨_, hw⟩, ⟨hD, hcA⟩, ?_, ?_⟩
    · intro a h1 h2
      show (if a ≤ 5000 then s.heap.size + a - 1 else _) + 1 = s.heap.size + a
      rw [if_pos h2]
      omega
    · have k1 : ∀ i : Nat, i < 3 → (if 6001 + i ≤ 5000 then s.heap.size + (6001 + i) - 1 else if 6001 + i = 5001 then t1 else if 6001 + i = 5002 then t2 else if 6001 + i = 5003 then t3 else if 6001 + i = 5004 then t4 else if 6001 + i = 5005 then t5 else if 6001 + i = 5006 then b else if 6001 + i ≤ 7000 then adK (6001 + i - 6001) else adV (6001 + i - 7001)) = adK i := by
        intro i hi
        match i, hi with
        | 0, _ => rfl
        | 1, _ => rfl
        | 2, _ => rfl
      have k2 : ∀ i : Nat, i < 3 → (if 7001 + i ≤ 5000 then s.heap.size + (7001 + i) - 1 else if 7001 + i = 5001 then t1 else if 7001 + i = 5002 then t2 else if 7001 + i = 5003 then t3 else if 7001 + i = 5004 then t4 else if 7001 + i = 5005 then t5 else if 7001 + i = 5006 then b else if 7001 + i ≤ 7000 then adK (7001 + i - 6001) else adV (7001 + i - 7001)) = adV i := by
        intro i hi
        match i, hi with
        | 0, _ => rfl
        | 1, _ => rfl
        | 2, _ => rfl
      refine ⟨⟨fun i hi => ?_, fun i j hi hj e => ?_⟩, ?_, ?_, ?_, Z1, Z2, Z3, Z4, Z5, va_Zof (hw _ wd_396) (hw _ wd_15) (va_eqt (h _ (List.mem_of_getElem? (i := 28) rfl))) hA⟩
      · have q := hV.1 i hi
        rw [← k1 i hi, ← k2 i hi] at q
        exact q
      · refine hV.2 i j hi hj ?_
        have e' := e
        dsimp only at e'
        rw [k1 i hi, k1 j hj] at e'
        exact e'
      · exact vk_R.of (A := #[Value.ref b]) (hw _ wd_379) (hT 0 (by decide))
      · exact vk_R.of (A := #[Value.ref b]) (hw _ wd_497) (hT 1 (by decide))
      · exact vk_R.of (A := #[Value.ref b]) (hw _ wd_521) (hT 2 (by decide))
  · intro x h1 h2
    have : x = 5001 ∨ x = 5002 ∨ x = 5003 ∨ x = 5004 ∨ x = 5005 := by omega
    rcases this with rfl | rfl | rfl | rfl | rfl
    · exact T1
    · exact T2
    · exact T3
    · exact T4
    · exact T5
  · obtain ⟨scr, q1, q2, q3, q4, q5⟩ := hX
    exact ⟨scr, q1, q2, q3, by omega, by rw [q4], q5, Nat.not_le.mpr hbl⟩
