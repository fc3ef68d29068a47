/-! CELLS ARE MADE: while cells are made the heap holds the start's and the world's alone, so a new one's place is known -/
def alM (M : Mem) (t n : Nat) : Bool := decide (cnM M < 5000 ∧ tgM M (cnM M + 1) = (t, n))
def alF (M : Mem) (t n : Nat) : Option Mem := gd (alM M t n) (some (nwM M))
theorem alF_p {M q : Mem} {t n : Nat} (h : alF M t n = some q) : alM M t n = true ∧ nwM M = q := by
  obtain ⟨h1, h2⟩ := gdN h
  exact ⟨h1, Option.some.inj h2⟩
theorem alM_p {M : Mem} {t n : Nat} (h : alM M t n = true) : cnM M < 5000 ∧ tgM M (cnM M + 1) = (t, n) := of_decide_eq_true h
theorem wsM_nw {G : GXM} {M : Mem} : wsM G (nwM M) = wsM G M ++ [(G.2.2.2.1 (cnM M + 1), ceM G.2.2.2.1 G.2.2.1 (nwM M) (cnM M + 1))] := by
  unfold wsM
  show (List.range (cnM M + 1)).map _ = _
  rw [List.range_succ, List.map_append]
  congr 1
  apply List.map_congr_left
  intro i hi
  have hi := List.mem_range.mp hi
  have h1 : i + 1 ≠ cnM M + 1 := by omega
  rw [ceM_eq (M := M) (M1 := nwM M) rfl (upA_n h1) (upA_n h1) (upA_n h1)]
theorem WbM_new {G : GXM} {M : Mem} {H H1 : Heap} {locs : List Loc} (hG : GokM G) (hW : WbM G M H locs) (hg : G.2.2.2.2 = true) (hn : cnM M < 5000) (hat : va_at G.2.1 clsM (G.2.2.2.1 (cnM M + 1), ceM G.2.2.2.1 G.2.2.1 (nwM M) (cnM M + 1)) H1) (z : H1.size = H.size + 1) (o1 : ∀ q : Nat, q < H.size → H1[q]? = H[q]?) : WbM G (nwM M) H1 locs := by
  obtain ⟨hP, hD, hS, hE, hc, hz⟩ := hW
  have hz := hz hg
  have had := hG.2.2.1 (cnM M + 1) (by omega) (by omega)
  have hlt : ∀ (k : Nat) (x : Nat × va_E), (wsM G M)[k]? = some x → x.1 < H.size := fun k x hx => (hP k x hx).lt
  refine ⟨?_, ?_, ?_, ?_, ?_, ?_⟩
  · rw [wsM_nw]
    refine va_P.app (fun k x hx => (hP k x hx).kept (o1 x.1 (hlt k x hx))) ?_
    intro k x hx
    have : k = 0 := by
      have := (List.getElem?_eq_some_iff.mp hx).1
      simpa using this
    subst this
    obtain rfl := Option.some.inj hx
    exact hat
  · rw [wsM_nw]
    refine va_D.app hD ⟨fun i j p q hi hj _ => ?_, fun k x hx => ?_⟩ (fun i j p q hi hj => ?_)
    · have h1 := (List.getElem?_eq_some_iff.mp hi).1
      have h2 := (List.getElem?_eq_some_iff.mp hj).1
      simp at h1 h2
      omega
    · have : k = 0 := by
        have := (List.getElem?_eq_some_iff.mp hx).1
        simpa using this
      subst this
      obtain rfl := Option.some.inj hx
      show szM G ≤ G.2.2.2.1 (cnM M + 1)
      omega
    · have h2 := (List.getElem?_eq_some_iff.mp hj).1
      have : j = 0 := by simpa using h2
      subst this
      obtain rfl := Option.some.inj hj
      have := hlt i p hi
      show p.1 ≠ G.2.2.2.1 (cnM M + 1)
      omega
  · have h2 : H.size ≤ H1.size := by omega
    refine ⟨Nat.le_trans hS.1 h2, fun q h1 h3 => ?_, hS.2.2⟩
    rw [o1 q (Nat.lt_of_lt_of_le h1 hS.1)]
    exact hS.2.1 q h1 h3
  · intro y h1 h2
    have h3 : y ≠ cnM M + 1 := by omega
    have e1 : giM (nwM M) y = giM M y := upA_n h3
    have e2 : tgM (nwM M) y = tgM M y := rfl
    rw [e1, e2]
    exact hE y h1 h2
  · show cnM M + 1 ≤ 5000
    omega
  · intro _
    show H1.size = szM G + (cnM M + 1)
    omega
theorem giM_nw {M : Mem} : giM (nwM M) (cnM M + 1) = fun _ => 0 := upA_s
theorem grM_nw {M : Mem} : grM (nwM M) (cnM M + 1) = fun _ => 0 := upA_s
theorem glM_nw {M : Mem} : glM (nwM M) (cnM M + 1) = fun _ => 0 := upA_s
def dvM (t k : Nat) : Value := match ftM t k with
  | 0 => .int 0
  | 1 => .long 0
  | _ => .null
theorem dvM_ok : ∀ t, t < 12 → ∀ k, k < (clsM.getD t ("", TT0, 0)).2.2 → defaultValue (yyM t k) = dvM t k := by decide +kernel
section NEWS
variable {G : GXM} {X : CxM} {cc : ByteArray} {own : String} {pc : Nat} {L : List (Nat × Value)} {st : List Value} {M : Mem} {k n : Nat}
theorem zz_new (C : CoM G X cc own) {ix t N : Nat} {c0 : vw_C} (hd : decode cc pc = .ok (.new ix, 3)) (hc : clsM[t]? = some c0) (hN : c0.2.2 = N) (hl : Cond.classLink own ix c0.1 ∈ lw_tbl ∧ Cond.instantiable c0.1 N ∈ lw_tbl ∧ Cond.initialized c0.1 ∈ lw_tbl) (hg : G.2.2.2.2 = true) {q : Mem} (ha : alF M t N = some q) (hk : k + 1 ≤ X.2.2.2.1.cells ∧ n + N ≤ X.2.2.2.1.slots)
    (kk : ZM G X (pc + 3) L (.ref (cnM q) :: st) q (k + 1) (n + N)) : ZM G X pc L st M k n := by
  obtain ⟨ha9, rfl⟩ := alF_p ha
  obtain ⟨p, l, e, R, s, m, args, below, meth, c, nL, Q, d⟩ := X
  intro H locs ls hW h
  have hG := C.2.2.2.2.2.2.1
  have hWm := C.2.2.2.2.2.1
  obtain ⟨a1, a2⟩ := alM_p ha9
  have hz := hW.2.2.2.2.2 hg
  have had := hG.2.2.1 (cnM M + 1) (by omega) (by omega)
  have e9 : H.size = G.2.2.2.1 (cnM M + 1) := by omega
  obtain ⟨Cn, T, N'⟩ := c0
  cases hN
  have hKn := (kM hG hWm).1 t _ hc
  have ht : t < 12 := (List.getElem?_eq_some_iff.mp hc).1
  refine W.newcK C.1 C.2.1 C.2.2.2.1 (wdM hG hWm hl.1 rfl) (wdM hG hWm hl.2.1 rfl) (wdM hG hWm hl.2.2 rfl) rfl hd hk.1 hk.2 hKn.2.1 rfl fun H1 kC hkC e1 z1 o1 => ?_
  have hb := u_born (yyM t) (uwsM (args := args) hG hWm hc) (fun w h => h) hKn hkC e1 (clM_ok t _ hc).2.1
  have hWn := WbM_new hG hW hg a1 (H1 := H1) ?_ z1 o1
  · have h2 := kk H1 locs ls hWn h
    rw [show H.size = G.2.2.2.1 (cnM M + 1) from e9]
    exact h2
  · rw [ceM_ob (M := nwM M) a2 (clM_lt hc), ← e9]
    refine ⟨_, hc, t_OB.to hb (fun j hj => ?_)⟩
    have e3 : clsM.getD t ("", TT0, 0) = (Cn, T, N') := by rw [List.getD_eq_getElem?_getD, hc]; rfl
    rw [dvM_ok t ht j (by rw [e3]; exact hj)]
    unfold vp_V
    rw [List.getD_eq_getElem?_getD, fsM_get hj]
    show dvM t j = fvM _ (nwM M) t (cnM M + 1) j
    unfold dvM fvM
    rw [giM_nw, grM_nw, glM_nw]
    rfl
/-- arrays of ints, booleans, longs: kinds 100, 101, 102 -/
theorem hb_newa {p : Program} {l : Launch} {e : Env} {R : Room} {s : State} {m : MethodId} {args : Array Value} {below : List Frame} {meth : Method} {c : Code} {Q : State → Prop} {H : Heap} {locs : List Loc} {ls : Array Slot} {rest : List Value} {atype : ArrayType} {ti : Nat} {x : Int32} {a0 : vp_A}
    (hexec : p.tables.exec = Jvm.exec) (hb : c.code = cc) (hG : GokM G) (hWm : G.1.WarmedH s.vm) (hg : G.2.2.2.2 = true) (hw : Cond.arrayClass (newarray.typeOf atype) ∈ lw_tbl) (hti : (tysM G.2.2.1)[ti]? = some (G.2.2.1 ti, newarray.typeOf atype)) (hra : ∀ U cA, va_RA U cA (newarray.typeOf atype) → U.vm.findClass ("[" ++ (newarray.typeOf atype).toString) = some cA) (hW : WbM G M H locs) (hd : decode cc pc = .ok (.newarray atype, 2))
    (hx : 0 ≤ x.toInt) (hby : x.toNatClampNeg * componentBytes (newarray.typeOf atype) ≤ 536870912) (hk : k + 1 ≤ R.cells ∧ n + x.toNatClampNeg ≤ R.slots) (hn : cnM M < 5000) (hce : ceM G.2.2.2.1 G.2.2.1 (nwM M) (cnM M + 1) = .inl (G.2.2.1 ti, a0)) (ha0 : ∀ cA : ClassId, vp_cell cA a0 = arrV cA x.toNatClampNeg (fun _ => defaultValue (newarray.typeOf atype)))
    (kk : ∀ H1 : Heap, WbM G (nwM M) H1 locs → W p l e R s m args below meth c H1 locs (k + 1) (n + x.toNatClampNeg) Q (F0 m (pc + 2) ls (.ref (G.2.2.2.1 (cnM M + 1)) :: rest))) : W p l e R s m args below meth c H locs k n Q (F0 m pc ls (.int x :: rest)) := by
  have hz := hW.2.2.2.2.2 hg
  have had := hG.2.2.1 (cnM M + 1) (by omega) (by omega)
  have e9 : H.size = G.2.2.2.1 (cnM M + 1) := by omega
  refine va_newaK hexec hb (wdM hG hWm hw rfl) rfl hd rfl (nlM hx) rfl hby hk.1 hk.2 e9 fun H1 cA e1 z1 o1 hAr hNm => ?_
  have hcA : cA = G.2.2.1 ti := Option.some.inj (hNm.symm.trans (hra s _ ((kM hG hWm).2 ti _ hti).2))
  subst hcA
  refine kk H1 (WbM_new hG hW hg hn ?_ (by rw [z1, e9]) (fun q hq => o1 q (by rw [← e9]; exact hq)))
  rw [hce]
  show H1[_]? = some (vp_cell _ _)
  rw [ha0]
  exact e1
theorem zz_newI (C : CoM G X cc own) {x : Int32} (hd : decode cc pc = .ok (.newarray .int, 2)) (hw : Cond.arrayClass .int ∈ lw_tbl) (hg : G.2.2.2.2 = true) (hx : 0 ≤ x.toInt) (hby : x.toNatClampNeg * 4 ≤ 536870912) {q : Mem} (ha : alF M 100 (Int32.toNatClampNeg x) = some q) (hk : k + 1 ≤ X.2.2.2.1.cells ∧ n + Int32.toNatClampNeg x ≤ X.2.2.2.1.slots)
    (kk : ZM G X (pc + 2) L (.ref (cnM q) :: st) q (k + 1) (n + Int32.toNatClampNeg x)) : ZM G X pc L (.int x :: st) M k n := by
  obtain ⟨ha9, rfl⟩ := alF_p ha
  obtain ⟨p, l, e, R, s, m, args, below, meth, c, nL, Q, d⟩ := X
  intro H locs ls hW h
  obtain ⟨a1, a2⟩ := alM_p ha9
  refine hb_newa (atype := .int) (ti := 0) (a0 := (x.toNatClampNeg, .inl (fun _ => 0))) C.1 C.2.1 C.2.2.2.2.2.2.1 C.2.2.2.2.2.1 hg hw rfl (fun U cA q => q) hW hd hx hby hk a1 ?_ (fun cA => rfl) (fun H1 hW1 => kk H1 locs ls hW1 h)
  rw [ceM_in (M := nwM M) (by show (tgM M _).1 = _; rw [a2]), giM_nw, show (tgM (nwM M) (cnM M + 1)) = (100, x.toNatClampNeg) from a2]
theorem zz_newZ (C : CoM G X cc own) {x : Int32} (hd : decode cc pc = .ok (.newarray .boolean, 2)) (hw : Cond.arrayClass .boolean ∈ lw_tbl) (hg : G.2.2.2.2 = true) (hx : 0 ≤ x.toInt) (hby : x.toNatClampNeg * 1 ≤ 536870912) {q : Mem} (ha : alF M 101 (Int32.toNatClampNeg x) = some q) (hk : k + 1 ≤ X.2.2.2.1.cells ∧ n + Int32.toNatClampNeg x ≤ X.2.2.2.1.slots)
    (kk : ZM G X (pc + 2) L (.ref (cnM q) :: st) q (k + 1) (n + Int32.toNatClampNeg x)) : ZM G X pc L (.int x :: st) M k n := by
  obtain ⟨ha9, rfl⟩ := alF_p ha
  obtain ⟨p, l, e, R, s, m, args, below, meth, c, nL, Q, d⟩ := X
  intro H locs ls hW h
  obtain ⟨a1, a2⟩ := alM_p ha9
  refine hb_newa (atype := .boolean) (ti := 1) (a0 := (x.toNatClampNeg, .inl (fun _ => 0))) C.1 C.2.1 C.2.2.2.2.2.2.1 C.2.2.2.2.2.1 hg hw rfl (fun U cA q => q) hW hd hx hby hk a1 ?_ (fun cA => rfl) (fun H1 hW1 => kk H1 locs ls hW1 h)
  rw [ceM_bo (M := nwM M) (by show (tgM M _).1 = _; rw [a2]), giM_nw, show (tgM (nwM M) (cnM M + 1)) = (101, x.toNatClampNeg) from a2]
theorem zz_newL (C : CoM G X cc own) {x : Int32} (hd : decode cc pc = .ok (.newarray .long, 2)) (hw : Cond.arrayClass .long ∈ lw_tbl) (hg : G.2.2.2.2 = true) (hx : 0 ≤ x.toInt) (hby : x.toNatClampNeg * 8 ≤ 536870912) {q : Mem} (ha : alF M 102 (Int32.toNatClampNeg x) = some q) (hk : k + 1 ≤ X.2.2.2.1.cells ∧ n + Int32.toNatClampNeg x ≤ X.2.2.2.1.slots)
    (kk : ZM G X (pc + 2) L (.ref (cnM q) :: st) q (k + 1) (n + Int32.toNatClampNeg x)) : ZM G X pc L (.int x :: st) M k n := by
  obtain ⟨ha9, rfl⟩ := alF_p ha
  obtain ⟨p, l, e, R, s, m, args, below, meth, c, nL, Q, d⟩ := X
  intro H locs ls hW h
  obtain ⟨a1, a2⟩ := alM_p ha9
  refine hb_newa (atype := .long) (ti := 2) (a0 := (x.toNatClampNeg, .inr (.inl (fun _ => 0)))) C.1 C.2.1 C.2.2.2.2.2.2.1 C.2.2.2.2.2.1 hg hw rfl (fun U cA q => q) hW hd hx hby hk a1 ?_ (fun cA => rfl) (fun H1 hW1 => kk H1 locs ls hW1 h)
  rw [ceM_lo (M := nwM M) (by show (tgM M _).1 = _; rw [a2]), glM_nw, show (tgM (nwM M) (cnM M + 1)) = (102, x.toNatClampNeg) from a2]
theorem zz_newR (C : CoM G X cc own) {x : Int32} {ix t : Nat} {Cn : String} (hd : decode cc pc = .ok (.anewarray ix, 3)) (hl : Cond.classLink own ix Cn ∈ lw_tbl) (hw : Cond.arrayOver (.object Cn) ∈ lw_tbl) (ht : 103 ≤ t) (hT : ∀ cA, (tysM cA)[t - 100]? = some (cA (t - 100), .object Cn)) (hg : G.2.2.2.2 = true) (hx : 0 ≤ x.toInt) (hby : x.toNatClampNeg * 4 ≤ 536870912) {q : Mem} (ha : alF M t (Int32.toNatClampNeg x) = some q) (hk : k + 1 ≤ X.2.2.2.1.cells ∧ n + Int32.toNatClampNeg x ≤ X.2.2.2.1.slots)
    (kk : ZM G X (pc + 3) L (.ref (cnM q) :: st) q (k + 1) (n + Int32.toNatClampNeg x)) : ZM G X pc L (.int x :: st) M k n := by
  obtain ⟨ha9, rfl⟩ := alF_p ha
  obtain ⟨p, l, e, R, s, m, args, below, meth, c, nL, Q, d⟩ := X
  intro H locs ls hW h
  have hG := C.2.2.2.2.2.2.1
  have hWm := C.2.2.2.2.2.1
  obtain ⟨a1, a2⟩ := alM_p ha9
  have hz := hW.2.2.2.2.2 hg
  have had := hG.2.2.1 (cnM M + 1) (by omega) (by omega)
  have e9 : H.size = G.2.2.2.1 (cnM M + 1) := by omega
  have hov : (Cond.arrayOver (.object Cn)).before args s = true := by
    obtain ⟨a0, h0⟩ := hG.1
    exact va_AO.use (va_AO.moved hWm.alike (va_AO.of (h0 _ hw)))
  refine W.anew C.1 C.2.1 C.2.2.2.1 (wdM hG hWm hl rfl) hov rfl hd rfl (nlM hx) hby hk.1 hk.2 fun cA kA comp f1 f2 f3 f4 => ?_
  obtain ⟨kA', comp', r1, r2, r3, r4⟩ := ((kM hG hWm).2 (t - 100) _ (hT _)).2
  have hcA : cA = G.2.2.1 (t - 100) := Option.some.inj (f1.symm.trans r4)
  subst hcA
  have hWn := WbM_new hG hW hg a1 (H1 := H.push ({ cls := G.2.2.1 (t - 100), slots := Array.replicate x.toNatClampNeg .null, vm := .none } : Cell)) ?_ (by simp) (fun q hq => by rw [Array.getElem?_push, if_neg (Nat.ne_of_lt hq)])
  · have h2 := kk _ locs ls hWn h
    show W _ _ _ _ _ _ _ _ _ _ _ _ _ _ _ (F0 m (pc + 3) ls (.ref H.size :: _))
    rw [e9]
    exact h2
  · rw [ceM_re (M := nwM M) (t := t) (by show (tgM M _).1 = _; rw [a2]) ht, grM_nw, show (tgM (nwM M) (cnM M + 1)) = (t, x.toNatClampNeg) from a2]
    show (H.push _)[_]? = some (vp_cell _ _)
    rw [← e9, Array.getElem?_push_size, vp_cell_q]
    rw [arrV_new]
    rfl
/-- a reference is put into an array -/
theorem zz_aastore (C : CoM G X cc own) {a x t tc N : Nat} {i : Int32} {c0 : vw_C} (hd : decode cc pc = .ok (.aastore, 1)) (hc : clsM[tc]? = some c0) (ht : 103 ≤ t) (hT : ∀ cA, (tysM cA)[t - 100]? = some (cA (t - 100), .object c0.1)) (hr : wrT t M a i = true) (ho : obM M x tc N = true) (kk : ZM G X (pc + 1) L st (srM M a (Int32.toNatClampNeg i) x) k n) : ZM G X pc L (.ref x :: .int i :: .ref a :: st) M k n := by
  obtain ⟨p, l, e, R, s, m, args, below, meth, c, nL, Q, d⟩ := X
  intro H locs ls hW h
  have hG := C.2.2.2.2.2.2.1
  have hWm := C.2.2.2.2.2.1
  have hK := kM hG hWm
  obtain ⟨h1, h2, h3⟩ := wrT_p hr
  obtain ⟨o1, o2⟩ := obM_p ho
  have hx0 : x ≠ 0 := by have := (ownM_p o1).1; omega
  have he := wsM_at (G := G) h1
  rw [ceM_re h2 ht] at he
  have hv := wsM_at (G := G) o1
  rw [ceM_ob o2 (clM_lt hc)] at hv
  have hlt : i.toNatClampNeg < (tgM M a).2 := Nat.not_le.mp fun q => h3 (Or.inr q)
  have h0 : ¬ i < 0 := fun q => h3 (Or.inl q)
  obtain ⟨r', hr', cellV, g1, g2, g3, -⟩ := hW.1 (x - 1) _ hv
  have hcls := (hK.1 tc c0 hc).2
  obtain ⟨kA, comp, k1, k2, k3, -⟩ := (hK.2 (t - 100) _ (hT _)).2
  have hcomp : comp = G.2.1.1 tc := Option.some.inj (k3.symm.trans hcls.1)
  subst hcomp
  obtain ⟨kC, hkC, -⟩ := hcls.2
  refine W.aast C.1 C.2.1 (hW.1 (a - 1) _ he) (fun q h => by cases h) (fun h => by cases h) k1 k2 rfl hkC ⟨h0, by show _ < (arrV _ _ _).slots.size; rw [arrV_size]; exact hlt⟩ g1 (fun q h => by rw [g3] at h; cases h) (by rw [g2]; exact hkC) (by rw [g2]; exact va_assign hcls) rfl rfl hd fun H1 e1 z oq => ?_
  refine kk H1 _ ls (WbM_put hW h1 rfl (ceM_re (M := srM M a i.toNatClampNeg x) h2 ht) (fun b hb => ceM_sr_o hb) (exM_sr hW.2.2.2.1) ?_ z oq) h
  show H1[_]? = some (vp_cell _ _)
  rw [e1, vp_cell_q, vp_cell_q, arrV_store]
  congr 2
  funext j
  unfold updV
  rw [grM_sr]
  by_cases hj : j = i.toNatClampNeg
  · subst hj
    rw [if_pos rfl, if_pos ⟨rfl, rfl⟩, rfM_p hx0]
  · rw [if_neg hj, if_neg (fun q => hj q.2)]
theorem zz_objInit (C : CoM G X cc own) {ix a : Nat} (hd : decode cc pc = .ok (.invokespecial ix, 3)) (hl : Cond.methodLink own ix Lib.objectInit ∈ lw_tbl) (hw : Cond.instanceMethod Lib.objectInit ∈ lw_tbl ∧ Cond.code Lib.objectInit ⟨#[0xb1]⟩ 1 none ∈ lw_tbl) (hdp : 1 ≤ dpM X) (hc : (st.map fun v => v.category).sum ≤ 8) (kk : ZM G X (pc + 3) L st M k n) : ZM G X pc L (.ref a :: st) M k n := by
  obtain ⟨p, l, e, R, s, m, args, below, meth, c, nL, Q, d⟩ := X
  intro H locs ls hW h
  have hG := C.2.2.2.2.2.2.1
  have hWm := C.2.2.2.2.2.1
  have hd1 : 1 ≤ d := hdp
  refine W.objInit C.1 C.2.1 C.2.2.2.1 (wdM hG hWm hl rfl) (wdM hG hWm hw.1 rfl) (wdM hG hWm hw.2 rfl) rfl (by rw [C.2.2.1]; exact h.1) rfl hd (Nat.le_trans hd1 C.2.2.2.2.2.2.2.1) ?_ (kk H locs ls hW h)
  have h8 := C.2.2.2.2.2.2.2.2
  have h9 : ((st.map (rvM G.2.2.2.1)).map fun v => v.category).sum ≤ 8 := by rw [catM]; exact hc
  show 2 * 0 + _ + 12 ≤ R.locals
  omega
/-- a constructor is called -/
theorem zz_callI (C : CoM G X cc own) {d1 mc ms np ix maxL a : Nat} {y : MethodName} {cy : ByteArray} {stk As : List Value} {M1 : Mem} (hd : decode cc pc = .ok (.invokespecial ix, 3)) (hl : Cond.methodLink own ix y ∈ lw_tbl) (hy : MyM y cy maxL none np) (hv : y.name = "<init>" ∧ Cond.instanceMethod y ∈ lw_tbl) (hM : ExM G X.2.1 d1 mc ms y cy maxL none (.ref a :: As) M none M1) (hdp : d1 + 1 ≤ dpM X)
    (hs : stk = As.reverse ++ .ref a :: st) (hn : As.length = np) (hc : (st.map fun v => v.category).sum ≤ 8) (hk : k + mc ≤ X.2.2.2.1.cells ∧ n + ms ≤ X.2.2.2.1.slots) (kk : ZM G X (pc + 3) L st M1 (k + mc) (n + ms)) : ZM G X pc L stk M k n := by
  obtain ⟨p, l, e, R, s, m, args, below, meth, c, nL, Q, d⟩ := X
  intro H locs ls hW h
  have hG := C.2.2.2.2.2.2.1
  have hWm := C.2.2.2.2.2.1
  have hrun := va_runI (g := F0 m pc ls (stk.map (rvM G.2.2.2.1))) (As := As.map (rvM G.2.2.2.1)) (rest := st.map (rvM G.2.2.2.1)) (b := G.2.2.2.1 a) (Ts := []) (nL := nL) ⟨C.1, C.2.1, C.2.2.1, C.2.2.2.1, fun _ q => by cases q⟩ hM (n := np) (index := ix)
    ⟨hb_cb C hy hl hdp, hv.1, wdM hG hWm hv.2 rfl⟩ (H := H) ⟨PcM_blind, fun U hU hUW => ⟨rfl, by rw [hU]; exact WbM_nil hW, State.WarmedH.trans hWm hUW⟩⟩ rfl (by simpa using hn) h.1
    (by subst hs; simp [rvM]) (lv_room (by rw [catM]; exact hc)) hd (e := e) (below := below) (meth := meth) (locs := locs) (cells := k) (slots := n) hk
  exact hb_call hrun hW (fun H1 locs1 hW1 => kk H1 locs1 ls hW1 h)
theorem zz_callIN (C : CoM G X cc own) {d1 mc ms np ix maxL a : Nat} {y : MethodName} {host : String} {cy : ByteArray} {stk As : List Value} {M1 : Mem} (hd : decode cc pc = .ok (.invokespecial ix, 3)) (hl : Cond.methodLinkNest own ix y host ∈ lw_tbl) (hy : MyM y cy maxL none np) (hv : y.name = "<init>" ∧ Cond.instanceMethod y ∈ lw_tbl) (hM : ExM G X.2.1 d1 mc ms y cy maxL none (.ref a :: As) M none M1) (hdp : d1 + 1 ≤ dpM X)
    (hs : stk = As.reverse ++ .ref a :: st) (hn : As.length = np) (hc : (st.map fun v => v.category).sum ≤ 8) (hk : k + mc ≤ X.2.2.2.1.cells ∧ n + ms ≤ X.2.2.2.1.slots) (kk : ZM G X (pc + 3) L st M1 (k + mc) (n + ms)) : ZM G X pc L stk M k n := by
  obtain ⟨p, l, e, R, s, m, args, below, meth, c, nL, Q, d⟩ := X
  intro H locs ls hW h
  have hG := C.2.2.2.2.2.2.1
  have hWm := C.2.2.2.2.2.1
  have hrun := va_runIN (g := F0 m pc ls (stk.map (rvM G.2.2.2.1))) (As := As.map (rvM G.2.2.2.1)) (rest := st.map (rvM G.2.2.2.1)) (b := G.2.2.2.1 a) (Ts := []) (nL := nL) ⟨C.1, C.2.1, C.2.2.1, C.2.2.2.1, fun _ q => by cases q⟩ hM (n := np) (index := ix)
    ⟨hb_cn C hy hl hdp, hv.1, wdM hG hWm hv.2 rfl⟩ (H := H) ⟨PcM_blind, fun U hU hUW => ⟨rfl, by rw [hU]; exact WbM_nil hW, State.WarmedH.trans hWm hUW⟩⟩ rfl (by simpa using hn) h.1
    (by subst hs; simp [rvM]) (lv_room (by rw [catM]; exact hc)) hd (e := e) (below := below) (meth := meth) (locs := locs) (cells := k) (slots := n) hk
  exact hb_call hrun hW (fun H1 locs1 hW1 => kk H1 locs1 ls hW1 h)
theorem zz_alenV (C : CoM G X cc own) {a t : Nat} {Cn : String} {v : Int32} (hd : decode cc pc = .ok (.arraylength, 1)) (ht : 103 ≤ t) (hT : ∀ cA, (tysM cA)[t - 100]? = some (cA (t - 100), .object Cn)) (hr : lnT t M a = true) (hv : Int32.ofNat (tgM M a).2 = v) (kk : ZM G X (pc + 1) L (.int v :: st) M k n) : ZM G X pc L (.ref a :: st) M k n := by
  subst hv
  exact zz_alenR C hd ht hT hr kk
theorem EnM_R {ret : Option FieldType} {r : Option Value} {M1 : Mem} {mc ms : Nat} (E : EnM G X ret r M1 mc ms) : X.2.2.2.1 = rmM (dpM X) mc ms := by
  obtain ⟨p, l, e, R, s, m, args, below, meth, c, nL, Q, d⟩ := X
  exact E.2.2
theorem zz_callSk (C : CoM G X cc own) {d1 np ix maxL : Nat} {y : MethodName} {cy : ByteArray} {ret : Option FieldType} {stk As : List Value} {r : Option Value} {M1 : Mem} (hd : decode cc pc = .ok (.invokestatic ix, 3)) (hl : Cond.methodLink own ix y ∈ lw_tbl) (hy : MyM y cy maxL ret np) (hv : Cond.static y ∈ lw_tbl) (hM : ExM G X.2.1 d1 0 0 y cy maxL ret As M r M1) (hdp : d1 + 1 ≤ dpM X)
    (hs : stk = As.reverse ++ st) (hn : As.length = np) (hc : (st.map fun v => v.category).sum ≤ 8) (hk : k ≤ X.2.2.2.1.cells ∧ n ≤ X.2.2.2.1.slots) (kk : ZM G X (pc + 3) L (r.toList ++ st) M1 k n) : ZM G X pc L stk M k n :=
  zz_callS (mc := 0) (ms := 0) C hd hl hy hv hM hdp hs hn hc hk kk
theorem zz_callVk (C : CoM G X cc own) {d1 np ix maxL t N a : Nat} {y : MethodName} {cy : ByteArray} {ret : Option FieldType} {stk As : List Value} {r : Option Value} {M1 : Mem} (hd : decode cc pc = .ok (.invokevirtual ix, 3)) (hl : Cond.methodLink own ix y ∈ lw_tbl) (hy : MyM y cy maxL ret np) (hv : MvM y) (ht : ∃ q : vw_C, clsM[t]? = some q ∧ q.1 = y.cls) (hM : ExM G X.2.1 d1 0 0 y cy maxL ret (.ref a :: As) M r M1) (hdp : d1 + 1 ≤ dpM X)
    (ho : obM M a t N = true) (hs : stk = As.reverse ++ .ref a :: st) (hn : As.length = np) (hc : (st.map fun v => v.category).sum ≤ 8) (hk : k ≤ X.2.2.2.1.cells ∧ n ≤ X.2.2.2.1.slots) (kk : ZM G X (pc + 3) L (r.toList ++ st) M1 k n) : ZM G X pc L stk M k n :=
  zz_callV (mc := 0) (ms := 0) C hd hl hy hv ht hM hdp ho hs hn hc hk kk
theorem zz_kn {k1 n1 : Nat} (hk : k = k1) (hn : n = n1) (kk : ZM G X pc L st M k1 n1) : ZM G X pc L st M k n := by
  subst hk; subst hn; exact kk
theorem zz_putrq (C : CoM G X cc own) {ix t k1 N a x : Nat} {fin : Bool} {q : Mem} (hd : decode cc pc = .ok (.putfield ix, 3)) (hF : FlM own ix t k1 N fin) (hfin : fin = false ∨ (X.2.2.2.2.2.2.2.2.1.name = "<init>" ∧ ∃ q : vw_C, clsM[t]? = some q ∧ q.1 = own)) (hf : ftM t k1 = 2) (hn : ∀ y : Nat, narrow (yyM t k1) (.ref y) = .ref y) (hfit : ∀ y : Nat, fits (yyM t k1) (.ref y) = true) (ho : obM M a t N = true) (hz : x ≠ 0) (hq : some (srM M a k1 x) = some q) (kk : ZM G X (pc + 3) L st q k n) : ZM G X pc L (.ref x :: .ref a :: st) M k n := by
  obtain rfl := Option.some.inj hq
  exact zz_putr C hd hF hfin hf hn hfit ho hz kk
theorem zz_aastoreq (C : CoM G X cc own) {a x t tc N : Nat} {i : Int32} {c0 : vw_C} {q : Mem} (hd : decode cc pc = .ok (.aastore, 1)) (hc : clsM[tc]? = some c0) (ht : 103 ≤ t) (hT : ∀ cA, (tysM cA)[t - 100]? = some (cA (t - 100), .object c0.1)) (hr : wrT t M a i = true) (ho : obM M x tc N = true) (hq : some (srM M a (Int32.toNatClampNeg i) x) = some q) (kk : ZM G X (pc + 1) L st q k n) : ZM G X pc L (.ref x :: .int i :: .ref a :: st) M k n := by
  obtain rfl := Option.some.inj hq
  exact zz_aastore C hd hc ht hT hr ho kk
end NEWS
