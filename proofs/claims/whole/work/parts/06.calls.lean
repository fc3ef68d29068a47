/-! ENTRY, RETURNS, CALLS -/
def EnM (G : GXM) (X : CxM) (ret : Option FieldType) (r : Option Value) (M1 : Mem) (mc ms : Nat) : Prop :=
  match X with
  | (p, l, e, R, s, m, args, below, meth, c, nL, Q, d) => Q = MQ below (QcM G r M1) args s mc ms (fun q => szM G ≤ q) ∧ meth.sig.returnType = ret ∧ R = rmM d mc ms
def nmM (X : CxM) : String := X.2.2.2.2.2.2.2.2.1.name
def dpM (X : CxM) : Nat := X.2.2.2.2.2.2.2.2.2.2.2.2
theorem lvM_args (ad : Nat → Nat) : ∀ (i : Nat) (vs : List Value), lv_args i (vs.map (rvM ad)) = (lv_args i vs).map (fun q => (q.1, rvM ad q.2))
  | _, [] => rfl
  | i, v :: vs => by
    show (i, rvM ad v) :: lv_args (if (rvM ad v).category = 2 then i + 2 else i + 1) (vs.map (rvM ad)) = (i, rvM ad v) :: (lv_args (if v.category = 2 then i + 2 else i + 1) vs).map _
    rw [rvM_cat, lvM_args ad _ vs]
theorem slM_len (ad : Nat → Nat) : ∀ vs : List Value, (lg_sl (vs.map (rvM ad))).length = (lg_sl vs).length
  | [] => rfl
  | v :: vs => by
    have ih := slM_len ad vs
    simp only [lg_sl, List.map_cons, List.flatMap_cons, List.length_append, rvM_cat] at ih ⊢
    rw [ih]
    split <;> rfl
theorem WbM_nil {G : GXM} {M : Mem} {H : Heap} {locs : List Loc} (h : WbM G M H locs) : WbM G M H [] := ⟨h.1, h.2.1, ⟨h.2.2.1.1, h.2.2.1.2.1, fun _ q => by cases q⟩, h.2.2.2⟩
theorem MetM_ofW {l : Launch} {y : MethodName} {ws ws' : List Cond} {rm : Room} {Pc : Array Value → State → Prop} {Qc : Array Value → State → Outcome → State → Prop} {mc ms : Nat} {free : Addr → Prop} {cc : ByteArray} {maxL : Nat} {ret : Option FieldType}
    (hy : plainFor y = true) (hw : ws = Cond.code y cc maxL ret :: ws')
    (body : ∀ p e s m args below meth c s₁, BodyLoose p l y (headSpec ws rm) cc maxL ret e s m args below meth c s₁ → c.maxLocals = maxL → Pc args s →
      W p l e (headSpec ws rm).room s m args below meth c s.heap [] 0 0 (MQ below Qc args s mc ms free) (entryFrame m args maxL)) : Met l y ws rm Pc Qc mc ms free := by
  refine MetFree.of_bodySF (code := cc) (maxLocals := maxL) (ret := ret) hy ?_ ?_
  · intro args s m h hn
    obtain ⟨meth, c, h1, h2, h3, h4, h5, h6, -, -⟩ := Cond.code_spec hn (atoms_spec (ws := ws) h _ (by rw [hw]; exact List.mem_cons_self))
    exact ⟨meth, c, h1, h2, h3, h4, h5, h6⟩
  · intro p e s m args below meth c s₁ B hml hP _
    have hh0 : s₁.heap = s.heap := by rw [B.state]; rfl
    obtain ⟨t, a1, o, b1, b2, b3⟩ := body p e s m args below meth c s₁ B hml hP s₁ hh0 (Stand.of_body B)
    exact ⟨t, o, a1, b1, b2, ⟨b3.1, b3.2⟩⟩
/-- a method's contract out of its walk -/
theorem ex_of {G : GXM} {l : Launch} {d mc ms : Nat} {y : MethodName} {cc : ByteArray} {maxL : Nat} {ret : Option FieldType} {av : List Value} {M : Mem} {r : Option Value} {M1 : Mem} (hG : GokM G) (hy : plainFor y = true) (hlen : (lg_sl av).length ≤ maxL)
    (body : ∀ X : CxM, X.2.1 = l → CoM G X cc y.cls → EnM G X ret r M1 mc ms → mLM X = maxL → dpM X = d → nmM X = y.name → ZM G X 0 (lv_args 0 av) [] M 0 0) : ExM G l d mc ms y cc maxL ret av M r M1 := by
  refine MetM_ofW (cc := cc) (maxL := maxL) (ret := ret) hy rfl ?_
  intro p e s m args below meth c s₁ B hml hv
  obtain ⟨rfl, hW, hWm⟩ := hv
  have hown : s.vm.findClass y.cls = some m.cls := findClass_of_methodNamed B.named
  have h := body (p, l, e, rmM d mc ms, s, m, ((av.map (rvM G.2.2.2.1)).toArray), below, meth, c, maxL, MQ below (QcM G r M1) ((av.map (rvM G.2.2.2.1)).toArray) s mc ms (fun q => szM G ≤ q), d) rfl
    ⟨B.exec, B.bytes, hml, hown, B.notSynchronized, hWm, hG, Nat.le_refl _, Nat.le_refl _⟩ ⟨rfl, B.returns, rfl⟩ rfl rfl (name_of_methodNamed B.named B.method).1
  rw [lg_entry_eq]
  refine h s.heap [] _ hW ?_
  have h2 := lv_entry (av.map (rvM G.2.2.2.1)) (n := maxL) (by rw [slM_len]; exact hlen)
  rw [lvM_args] at h2
  exact h2
section CALLS
variable {G : GXM} {X : CxM} {cc : ByteArray} {own : String} {pc : Nat} {L : List (Nat × Value)} {st : List Value} {M : Mem} {k n : Nat}
theorem zz_iret (C : CoM G X cc own) {x : Int32} (E : EnM G X (some .int) (some (.int x)) M k n) (hd : decode cc pc = .ok (.ireturn, 1)) : ZM G X pc L [.int x] M k n := by
  obtain ⟨p, l, e, R, s, m, args, below, meth, c, nL, Q, d⟩ := X
  intro H locs ls hW h
  obtain ⟨rfl, hr, -⟩ := E
  exact W.iret C.1 C.2.1 hr (fun t ht _ => ⟨rfl, by rw [ht]; exact WbM_nil hW⟩) hW.2.2.1.2.2 hd C.2.2.2.2.1
theorem zz_zret (C : CoM G X cc own) {x : Int32} (hx : x = 0 ∨ x = 1) (E : EnM G X (some .boolean) (some (.int x)) M k n) (hd : decode cc pc = .ok (.ireturn, 1)) : ZM G X pc L [.int x] M k n := by
  obtain ⟨p, l, e, R, s, m, args, below, meth, c, nL, Q, d⟩ := X
  intro H locs ls hW h
  obtain ⟨rfl, hr, -⟩ := E
  exact W.zret C.1 C.2.1 hr (by rcases hx with rfl | rfl <;> rfl) (fun t ht _ => ⟨rfl, by rw [ht]; exact WbM_nil hW⟩) hW.2.2.1.2.2 hd C.2.2.2.2.1
theorem zz_lret (C : CoM G X cc own) {x : Int64} (E : EnM G X (some .long) (some (.long x)) M k n) (hd : decode cc pc = .ok (.lreturn, 1)) : ZM G X pc L [.long x] M k n := by
  obtain ⟨p, l, e, R, s, m, args, below, meth, c, nL, Q, d⟩ := X
  intro H locs ls hW h
  obtain ⟨rfl, hr, -⟩ := E
  exact W.lret C.1 C.2.1 hr (fun t ht _ => ⟨rfl, by rw [ht]; exact WbM_nil hW⟩) hW.2.2.1.2.2 hd C.2.2.2.2.1
theorem zz_vret (C : CoM G X cc own) (E : EnM G X none none M k n) (hd : decode cc pc = .ok (.return_, 1)) : ZM G X pc L [] M k n := by
  obtain ⟨p, l, e, R, s, m, args, below, meth, c, nL, Q, d⟩ := X
  intro H locs ls hW h
  obtain ⟨rfl, hr, -⟩ := E
  exact W.vret C.1 C.2.1 hr (fun t ht _ => ⟨rfl, by rw [ht]; exact WbM_nil hW⟩) hW.2.2.1.2.2 hd C.2.2.2.2.1
/-- what the tables say of a callee -/
def MyM (y : MethodName) (cy : ByteArray) (maxL : Nat) (ret : Option FieldType) (np : Nat) : Prop := Cond.initialized y.cls ∈ lw_tbl ∧ Cond.code y cy maxL ret ∈ lw_tbl ∧ (y.cls ≠ "java/lang/invoke/MethodHandle" ∧ y.cls ≠ "java/lang/invoke/VarHandle" ∧ (parseMethodDescriptor y.desc).map (fun d => d.parameters.length) = some np) ∧ maxL ≤ 45
def MvM (y : MethodName) : Prop := Cond.instanceMethod y ∈ lw_tbl ∧ Cond.selects y.cls y y ∈ lw_tbl
theorem PcM_blind {av : List Value} : FrameBlind (PcM G av M) := fun a U g mk q => ⟨q.1, q.2.1, q.2.2⟩
theorem catM (ad : Nat → Nat) : ∀ st : List Value, ((st.map (rvM ad)).map fun v => v.category).sum = (st.map fun v => v.category).sum
  | [] => rfl
  | v :: st => by
    have ih := catM ad st
    simp only [List.map_cons, List.sum_cons, rvM_cat, ih]
/-- behind a call -/
theorem hb_call {p : Program} {l : Launch} {e : Env} {R : Room} {s : State} {m : MethodId} {args : Array Value} {below : List Frame} {meth : Method} {c : Code} {Q : State → Prop} {H : Heap} {locs : List Loc} {ls : Array Slot} {rest st0 : List Value} {r : Option Value} {M1 : Mem} {mc ms : Nat} {a1 : Array Value}
    (hr : va_Run p l e R s m args below meth c H locs k n mc ms (F0 m pc ls st0) rest (QcM G r M1 a1) (fun q => szM G ≤ q)) (hW : WbM G M H locs)
    (kk : ∀ (H1 : Heap) (locs1 : List Loc), WbM G M1 H1 locs1 → W p l e R s m args below meth c H1 locs1 (k + mc) (n + ms) Q (F0 m (pc + 3) ls ((r.map (rvM G.2.2.2.1)).toList ++ rest))) : W p l e R s m args below meth c H locs k n Q (F0 m pc ls st0) := by
  intro T hT X
  obtain ⟨v, st₀, t, T', L, h0, X', hL, e1, e2, ⟨hv, hb⟩, st⟩ := hr T hT X
  cases hv
  have hb2 : WbM G M1 T'.heap (locs ++ L) := by
    rw [e1]
    refine ⟨hb.1, hb.2.1, ⟨hb.2.2.1.1, hb.2.2.1.2.1, fun q hq => ?_⟩, hb.2.2.2⟩
    rcases List.mem_append.mp hq with h | h
    · exact hW.2.2.1.2.2 q h
    · exact hL q h
  obtain ⟨t2, a2, b2⟩ := kk T'.heap (locs ++ L) hb2 T' rfl X'
  exact ⟨t2, st t2 a2, b2⟩
theorem hb_cb {p : Program} {l : Launch} {e : Env} {R : Room} {s : State} {m : MethodId} {args : Array Value} {below : List Frame} {meth : Method} {c : Code} {nL : Nat} {Q : State → Prop} {d d1 mc ms np ix maxL : Nat} {y : MethodName} {cy : ByteArray} {ret : Option FieldType}
    (C : CoM G (p, l, e, R, s, m, args, below, meth, c, nL, Q, d) cc own) (hy : MyM y cy maxL ret np) (hl : Cond.methodLink own ix y ∈ lw_tbl) (hdp : d1 + 1 ≤ d) : CallB R s args own ix y cy maxL ret [.code y cy maxL ret] (rmM d1 mc ms) mc ms np := by
  obtain ⟨hexec, hb, hml, hown, hlk, hWm, hG, hf, hlo⟩ := C
  refine ⟨rfl, rfl, Nat.le_trans hdp hf, ?_, ?_, List.mem_cons_self, wdM hG hWm hy.2.1 rfl, wdM hG hWm hy.1 rfl, ⟨hy.2.2.1.1, hy.2.2.1.2.1⟩, fun sig h => ?_, wdM hG hWm hl rfl⟩
  · show 8 + (maxL + 11) + 64 * d1 ≤ R.locals
    have := hy.2.2.2
    omega
  · intro w hw a' U hU
    rw [List.mem_singleton.mp hw]
    exact word_at hU (good_of_word rfl) (wdM (args := args) hG hWm hy.2.1 rfl)
  · have h2 := hy.2.2.1.2.2
    rw [h] at h2
    exact (Option.some.inj h2).symm
theorem zz_callV (C : CoM G X cc own) {d1 mc ms np ix maxL t N a : Nat} {y : MethodName} {cy : ByteArray} {ret : Option FieldType} {stk As : List Value} {r : Option Value} {M1 : Mem} (hd : decode cc pc = .ok (.invokevirtual ix, 3)) (hl : Cond.methodLink own ix y ∈ lw_tbl) (hy : MyM y cy maxL ret np) (hv : MvM y) (ht : ∃ q : vw_C, clsM[t]? = some q ∧ q.1 = y.cls) (hM : ExM G X.2.1 d1 mc ms y cy maxL ret (.ref a :: As) M r M1) (hdp : d1 + 1 ≤ dpM X)
    (ho : obM M a t N = true) (hs : stk = As.reverse ++ .ref a :: st) (hn : As.length = np) (hc : (st.map fun v => v.category).sum ≤ 8) (hk : k + mc ≤ X.2.2.2.1.cells ∧ n + ms ≤ X.2.2.2.1.slots) (kk : ZM G X (pc + 3) L (r.toList ++ st) M1 (k + mc) (n + ms)) : ZM G X pc L stk M k n := by
  obtain ⟨p, l, e, R, s, m, args, below, meth, c, nL, Q, d⟩ := X
  intro H locs ls hW h
  have hG := C.2.2.2.2.2.2.1
  have hWm := C.2.2.2.2.2.1
  obtain ⟨o1, o2⟩ := obM_p ho
  obtain ⟨q, hq, hqy⟩ := ht
  have he := wsM_at (G := G) o1
  rw [ceM_ob o2 (clM_lt hq)] at he
  obtain ⟨r0, g1, cell, g2, g3, g4, -⟩ := hW.1 (a - 1) _ he
  have hK := (kM hG hWm).1 t q hq
  have hrun := va_runV (g := F0 m pc ls (stk.map (rvM G.2.2.2.1))) (As := As.map (rvM G.2.2.2.1)) (rest := st.map (rvM G.2.2.2.1)) (b := G.2.2.2.1 a) (C := y.cls) (Ts := []) (nL := nL) ⟨C.1, C.2.1, C.2.2.1, C.2.2.2.1, fun _ q => by cases q⟩ hM (n := np) (index := ix)
    ⟨hb_cb C hy hl hdp, wdM hG hWm hv.1 rfl, wdM hG hWm hv.2 rfl⟩ (H := H) ⟨PcM_blind, ⟨cell, g2, by rw [g4]; rfl, by rw [← hqy, g3]; exact hK.2.1⟩, fun U hU hUW => ⟨rfl, by rw [hU]; exact WbM_nil hW, State.WarmedH.trans hWm hUW⟩⟩ rfl (by simpa using hn) h.1
    (by subst hs; simp [rvM]) (lv_room (by rw [catM]; exact hc)) hd (e := e) (below := below) (meth := meth) (locs := locs) (cells := k) (slots := n) hk
  refine hb_call hrun hW (fun H1 locs1 hW1 => ?_)
  have h2 := kk H1 locs1 ls hW1 h
  have e2 : (r.toList ++ st).map (rvM G.2.2.2.1) = (r.map (rvM G.2.2.2.1)).toList ++ st.map (rvM G.2.2.2.1) := by cases r <;> rfl
  rw [e2] at h2
  exact h2
theorem zz_callS (C : CoM G X cc own) {d1 mc ms np ix maxL : Nat} {y : MethodName} {cy : ByteArray} {ret : Option FieldType} {stk As : List Value} {r : Option Value} {M1 : Mem} (hd : decode cc pc = .ok (.invokestatic ix, 3)) (hl : Cond.methodLink own ix y ∈ lw_tbl) (hy : MyM y cy maxL ret np) (hv : Cond.static y ∈ lw_tbl) (hM : ExM G X.2.1 d1 mc ms y cy maxL ret As M r M1) (hdp : d1 + 1 ≤ dpM X)
    (hs : stk = As.reverse ++ st) (hn : As.length = np) (hc : (st.map fun v => v.category).sum ≤ 8) (hk : k + mc ≤ X.2.2.2.1.cells ∧ n + ms ≤ X.2.2.2.1.slots) (kk : ZM G X (pc + 3) L (r.toList ++ st) M1 (k + mc) (n + ms)) : ZM G X pc L stk M k n := by
  obtain ⟨p, l, e, R, s, m, args, below, meth, c, nL, Q, d⟩ := X
  intro H locs ls hW h
  have hG := C.2.2.2.2.2.2.1
  have hWm := C.2.2.2.2.2.1
  have hrun := va_runS (g := F0 m pc ls (stk.map (rvM G.2.2.2.1))) (As := As.map (rvM G.2.2.2.1)) (rest := st.map (rvM G.2.2.2.1)) (Ts := []) (nL := nL) ⟨C.1, C.2.1, C.2.2.1, C.2.2.2.1, fun _ q => by cases q⟩ hM (n := np) (index := ix)
    ⟨hb_cb C hy hl hdp, wdM hG hWm hv rfl⟩ (H := H) ⟨PcM_blind, fun U hU hUW => ⟨rfl, by rw [hU]; exact WbM_nil hW, State.WarmedH.trans hWm hUW⟩⟩ rfl (by simpa using hn) h.1
    (by subst hs; simp [rvM]) (lv_room (by rw [catM]; exact hc)) hd (e := e) (below := below) (meth := meth) (locs := locs) (cells := k) (slots := n) hk
  refine hb_call hrun hW (fun H1 locs1 hW1 => ?_)
  have h2 := kk H1 locs1 ls hW1 h
  have e2 : (r.toList ++ st).map (rvM G.2.2.2.1) = (r.map (rvM G.2.2.2.1)).toList ++ st.map (rvM G.2.2.2.1) := by cases r <;> rfl
  rw [e2] at h2
  exact h2
end CALLS
/-! the words of the pure functions -/
def gd {α : Type} (b : Bool) (t : Option α) : Option α := if b = true then t else none
theorem gdN {α : Type} {b : Bool} {t : Option α} {r : α} (h : gd b t = some r) : b = true ∧ t = some r := iteN h
theorem gd_t {α : Type} {b : Bool} {t : Option α} (h : b = true) : gd b t = t := if_pos h
theorem iteT {α : Type} {c : Prop} [Decidable c] {A B : Option α} {r : α} (h : (if c then A else B) = some r) (hc : c) : A = some r := by rw [if_pos hc] at h; exact h
theorem iteF {α : Type} {c : Prop} [Decidable c] {A B : Option α} {r : α} (h : (if c then A else B) = some r) (hc : ¬ c) : B = some r := by rw [if_neg hc] at h; exact h
section CALLS0
variable {G : GXM} {X : CxM} {cc : ByteArray} {own : String} {pc : Nat} {L : List (Nat × Value)} {st : List Value} {M : Mem}
theorem zz_callV0 (C : CoM G X cc own) {d1 np ix maxL t N a : Nat} {y : MethodName} {cy : ByteArray} {ret : Option FieldType} {stk As : List Value} {r : Option Value} {M1 : Mem} (hd : decode cc pc = .ok (.invokevirtual ix, 3)) (hl : Cond.methodLink own ix y ∈ lw_tbl) (hy : MyM y cy maxL ret np) (hv : MvM y) (ht : ∃ q : vw_C, clsM[t]? = some q ∧ q.1 = y.cls) (hM : ExM G X.2.1 d1 0 0 y cy maxL ret (.ref a :: As) M r M1) (hdp : d1 + 1 ≤ dpM X)
    (ho : obM M a t N = true) (hs : stk = As.reverse ++ .ref a :: st) (hn : As.length = np) (hc : (st.map fun v => v.category).sum ≤ 8) (kk : ZM G X (pc + 3) L (r.toList ++ st) M1 0 0) : ZM G X pc L stk M 0 0 :=
  zz_callV (k := 0) (n := 0) C hd hl hy hv ht hM hdp ho hs hn hc ⟨Nat.zero_le _, Nat.zero_le _⟩ kk
theorem zz_callS0 (C : CoM G X cc own) {d1 np ix maxL : Nat} {y : MethodName} {cy : ByteArray} {ret : Option FieldType} {stk As : List Value} {r : Option Value} {M1 : Mem} (hd : decode cc pc = .ok (.invokestatic ix, 3)) (hl : Cond.methodLink own ix y ∈ lw_tbl) (hy : MyM y cy maxL ret np) (hv : Cond.static y ∈ lw_tbl) (hM : ExM G X.2.1 d1 0 0 y cy maxL ret As M r M1) (hdp : d1 + 1 ≤ dpM X)
    (hs : stk = As.reverse ++ st) (hn : As.length = np) (hc : (st.map fun v => v.category).sum ≤ 8) (kk : ZM G X (pc + 3) L (r.toList ++ st) M1 0 0) : ZM G X pc L stk M 0 0 :=
  zz_callS (k := 0) (n := 0) C hd hl hy hv hM hdp hs hn hc ⟨Nat.zero_le _, Nat.zero_le _⟩ kk
end CALLS0
section CALLSN
variable {G : GXM} {X : CxM} {cc : ByteArray} {own : String} {pc : Nat} {L : List (Nat × Value)} {st : List Value} {M : Mem} {k n : Nat}
theorem wnM {s : State} {args : Array Value} {own host : String} {ix : Nat} {y : MethodName} (hG : GokM G) (hWm : G.1.WarmedH s.vm) (hl : Cond.methodLinkNest own ix y host ∈ lw_tbl) : (Cond.methodLinkNest own ix y host).before args s = true := by
  obtain ⟨a0, h⟩ := hG.1
  exact va_Nw.use rfl (va_Nw.warmM hWm (va_Nw.of rfl (h _ hl)))
theorem hb_cn {p : Program} {l : Launch} {e : Env} {R : Room} {s : State} {m : MethodId} {args : Array Value} {below : List Frame} {meth : Method} {c : Code} {nL : Nat} {Q : State → Prop} {d d1 mc ms np ix maxL : Nat} {y : MethodName} {host : String} {cy : ByteArray} {ret : Option FieldType}
    (C : CoM G (p, l, e, R, s, m, args, below, meth, c, nL, Q, d) cc own) (hy : MyM y cy maxL ret np) (hl : Cond.methodLinkNest own ix y host ∈ lw_tbl) (hdp : d1 + 1 ≤ d) : va_CN R s args own ix y host cy maxL ret [.code y cy maxL ret] (rmM d1 mc ms) mc ms np := by
  obtain ⟨hexec, hb, hml, hown, hlk, hWm, hG, hf, hlo⟩ := C
  refine ⟨⟨rfl, rfl, Nat.le_trans hdp hf, ?_, ?_, List.mem_cons_self⟩, wdM hG hWm hy.2.1 rfl, wdM hG hWm hy.1 rfl, ⟨hy.2.2.1.1, hy.2.2.1.2.1⟩, fun sig h => ?_, wnM hG hWm hl⟩
  · show 8 + (maxL + 11) + 64 * d1 ≤ R.locals
    have := hy.2.2.2
    omega
  · intro w hw a' U hU
    rw [List.mem_singleton.mp hw]
    exact word_at hU (good_of_word rfl) (wdM (args := args) hG hWm hy.2.1 rfl)
  · have h2 := hy.2.2.1.2.2
    rw [h] at h2
    exact (Option.some.inj h2).symm
theorem zz_callVN0 (C : CoM G X cc own) {d1 np ix maxL t N a : Nat} {y : MethodName} {host : String} {cy : ByteArray} {ret : Option FieldType} {stk As : List Value} {r : Option Value} {M1 : Mem} (hd : decode cc pc = .ok (.invokevirtual ix, 3)) (hl : Cond.methodLinkNest own ix y host ∈ lw_tbl) (hy : MyM y cy maxL ret np) (hv : MvM y) (ht : ∃ q : vw_C, clsM[t]? = some q ∧ q.1 = y.cls) (hM : ExM G X.2.1 d1 0 0 y cy maxL ret (.ref a :: As) M r M1) (hdp : d1 + 1 ≤ dpM X)
    (ho : obM M a t N = true) (hs : stk = As.reverse ++ .ref a :: st) (hn : As.length = np) (hc : (st.map fun v => v.category).sum ≤ 8) (kk : ZM G X (pc + 3) L (r.toList ++ st) M1 0 0) : ZM G X pc L stk M 0 0 := by
  obtain ⟨p, l, e, R, s, m, args, below, meth, c, nL, Q, d⟩ := X
  intro H locs ls hW h
  have hG := C.2.2.2.2.2.2.1
  have hWm := C.2.2.2.2.2.1
  obtain ⟨o1, o2⟩ := obM_p ho
  obtain ⟨q, hq, hqy⟩ := ht
  have he := wsM_at (G := G) o1
  rw [ceM_ob o2 (clM_lt hq)] at he
  obtain ⟨r0, g1, cell, g2, g3, g4, -⟩ := hW.1 (a - 1) _ he
  have hK := (kM hG hWm).1 t q hq
  have hrun := va_runVN (g := F0 m pc ls (stk.map (rvM G.2.2.2.1))) (As := As.map (rvM G.2.2.2.1)) (rest := st.map (rvM G.2.2.2.1)) (b := G.2.2.2.1 a) (C := y.cls) (Ts := []) (nL := nL) ⟨C.1, C.2.1, C.2.2.1, C.2.2.2.1, fun _ q => by cases q⟩ hM (n := np) (index := ix)
    ⟨hb_cn C hy hl hdp, wdM hG hWm hv.1 rfl, wdM hG hWm hv.2 rfl⟩ (H := H) ⟨PcM_blind, ⟨cell, g2, by rw [g4]; rfl, by rw [← hqy, g3]; exact hK.2.1⟩, fun U hU hUW => ⟨rfl, by rw [hU]; exact WbM_nil hW, State.WarmedH.trans hWm hUW⟩⟩ rfl (by simpa using hn) h.1
    (by subst hs; simp [rvM]) (lv_room (by rw [catM]; exact hc)) hd (e := e) (below := below) (meth := meth) (locs := locs) (cells := 0) (slots := 0) ⟨Nat.zero_le _, Nat.zero_le _⟩
  refine hb_call hrun hW (fun H1 locs1 hW1 => ?_)
  have h2 := kk H1 locs1 ls hW1 h
  have e2 : (r.toList ++ st).map (rvM G.2.2.2.1) = (r.map (rvM G.2.2.2.1)).toList ++ st.map (rvM G.2.2.2.1) := by cases r <;> rfl
  rw [e2] at h2
  exact h2
end CALLSN
section BRET
variable {G : GXM} {X : CxM} {cc : ByteArray} {own : String} {pc : Nat} {L : List (Nat × Value)} {M : Mem} {k n : Nat}
theorem zz_bret (C : CoM G X cc own) {x : Int32} (hx : x.toInt8.toInt32 = x) (E : EnM G X (some .byte) (some (.int x)) M k n) (hd : decode cc pc = .ok (.ireturn, 1)) : ZM G X pc L [.int x] M k n := by
  obtain ⟨p, l, e, R, s, m, args, below, meth, c, nL, Q, d⟩ := X
  intro H locs ls hW h
  obtain ⟨rfl, hr, -⟩ := E
  exact W.zret C.1 C.2.1 hr (by show Value.int _ = _; rw [hx]) (fun t ht _ => ⟨rfl, by rw [ht]; exact WbM_nil hW⟩) hW.2.2.1.2.2 hd C.2.2.2.2.1
end BRET
