/-! THE WORLD OF A PURE MEMORY, AND THE ROWS OF THE MACHINE OVER IT -/
def szM (G : GXM) : Nat := G.1.heap.size
/-- the start: the tables' words, the classes' numbers, where cells lie; the constant texts and arrays -/
def lenS : List Nat := [5, 1, 7]
def bytS : List (List Int32) := [[116, 112, 117, 98, 104], [122], [103, 102, 120, 107, 109, 40, 41]]
def sttM (G : GXM) : Prop := vk_S 3 lenS bytS (fun i => G.2.2.2.1 (6001 + i)) (fun i => G.2.2.2.1 (7001 + i)) (fun q => szM G ≤ q) G.1 G.1.heap ∧ vk_R "HomeFreed$Rules" 47 "tpubh" (G.2.2.2.1 6001) G.1 ∧ vk_R "HomeFreed$Rules" 59 "z" (G.2.2.2.1 6002) G.1 ∧ vk_R "HomeFreed$Script" 58 "gfxkm()" (G.2.2.2.1 6003) G.1 ∧
  va_Z "HomeFreed" "RULE_LEAST" "[I" (.ref (G.2.2.2.1 5001)) (fun q => szM G ≤ q) G.1 G.1.heap ∧ va_Z "HomeFreed" "RULE_MOST" "[I" (.ref (G.2.2.2.1 5002)) (fun q => szM G ≤ q) G.1 G.1.heap ∧ va_Z "HomeFreed" "RULE_USUAL" "[I" (.ref (G.2.2.2.1 5003)) (fun q => szM G ≤ q) G.1 G.1.heap ∧
  va_Z "HomeFreed" "CLASS_LEAST" "[I" (.ref (G.2.2.2.1 5004)) (fun q => szM G ≤ q) G.1 G.1.heap ∧ va_Z "HomeFreed" "CLASS_MOST" "[I" (.ref (G.2.2.2.1 5005)) (fun q => szM G ≤ q) G.1 G.1.heap ∧ va_Z "java/lang/String" "COMPACT_STRINGS" "Z" (.int 1) (fun q => szM G ≤ q) G.1 G.1.heap
def GokM (G : GXM) : Prop := (∃ a0 : Array Value, ∀ w ∈ lw_tbl, w.before a0 G.1 = true) ∧ va_K G.2.1 clsM (tysM G.2.2.1) G.1 ∧ (∀ a, 0 < a → a ≤ 5000 → G.2.2.2.1 a + 1 = szM G + a) ∧ sttM G
def exM (G : GXM) (M : Mem) : Prop := ∀ x, 5000 < x → x ≤ 5006 → (tgM M x).1 = 100 ∧ va_T .int (G.2.2.2.1 x) (tgM M x).2 (fun j => .int (giM M x j)) (fun q => szM G ≤ q) G.1 G.1.heap
/-- an old array of ints, wherever the machine stands now -/
theorem exM_at {G : GXM} {M : Mem} {H : Heap} {locs : List Loc} {s : State} {a : Nat} (h : exM G M) (hS : va_S (fun q => szM G ≤ q) G.1.heap H locs) (hWm : G.1.WarmedH s.vm) (hx : extM a = true) : ∃ cs : Cell, H[G.2.2.2.1 a]? = some cs ∧ s.isArrayOf cs .int ∧ cs.vm ≠ .unknown ∧ (tgM M a).2 ≤ cs.slots.size ∧ cs.slots.size.toInt32 = Int32.ofNat (tgM M a).2 ∧ ∀ j : Nat, j < (tgM M a).2 → cs.slots[j]? = some (.int (giM M a j)) := by
  obtain ⟨x1, x2⟩ := extM_p hx
  obtain ⟨-, hT⟩ := h a x1 x2
  obtain ⟨cs, q1, q2, q3, q4, q5, q6, q7⟩ := va_T.moved hWm.alike hT
  exact ⟨cs, by rw [hS.2.1 _ (Array.getElem?_eq_some_iff.mp q1).1 q7]; exact q1, q2, q3, q4, q5, q6⟩
def WbM (G : GXM) (M : Mem) (H : Heap) (locs : List Loc) : Prop := va_P G.2.1 clsM (wsM G M) H ∧ va_D (fun q => szM G ≤ q) (wsM G M) ∧ va_S (fun q => szM G ≤ q) G.1.heap H locs ∧ exM G M ∧ cnM M ≤ 5000 ∧ (G.2.2.2.2 = true → H.size = szM G + cnM M)
def PcM (G : GXM) (av : List Value) (M : Mem) : Array Value → State → Prop := fun v U => v = (av.map (rvM G.2.2.2.1)).toArray ∧ WbM G M U.heap [] ∧ G.1.WarmedH U.vm
def QcM (G : GXM) (r : Option Value) (M1 : Mem) : Array Value → State → Outcome → State → Prop := fun _ st o t => o = .returned (r.map (rvM G.2.2.2.1)) ∧ WbM G M1 t.heap []
abbrev rmM (d mc ms : Nat) : Room := { frames := d, cells := mc, slots := ms, locals := 64 * d }
def ExM (G : GXM) (l : Launch) (d mc ms : Nat) (y : MethodName) (cc : ByteArray) (maxL : Nat) (ret : Option FieldType) (av : List Value) (M : Mem) (r : Option Value) (M1 : Mem) : Prop :=
  Met l y [.code y cc maxL ret] (rmM d mc ms) (PcM G av M) (QcM G r M1) mc ms (fun q => szM G ≤ q)
/-- a method's body: machine, launch, surroundings, room, entry, method, arguments, frames below, record, code, locals, end, depth -/
abbrev CxM : Type := Program × Launch × Env × Room × State × MethodId × Array Value × List Frame × Method × Code × Nat × (State → Prop) × Nat
def ZM (G : GXM) (X : CxM) (pc : Nat) (L : List (Nat × Value)) (st : List Value) (M : Mem) (k n : Nat) : Prop :=
  match X with
  | (p, l, e, R, s, m, args, below, meth, c, nL, Q, _) => ∀ (H : Heap) (locs : List Loc) (ls : Array Slot), WbM G M H locs → lv_has ls nL (L.map (fun q => (q.1, rvM G.2.2.2.1 q.2))) → W p l e R s m args below meth c H locs k n Q (F0 m pc ls (st.map (rvM G.2.2.2.1)))
def CoM (G : GXM) (X : CxM) (cc : ByteArray) (own : String) : Prop :=
  match X with
  | (p, l, e, R, s, m, args, below, meth, c, nL, Q, d) => p.tables.exec = Jvm.exec ∧ c.code = cc ∧ c.maxLocals = nL ∧ s.vm.findClass own = some m.cls ∧ meth.locks = false ∧ G.1.WarmedH s.vm ∧ GokM G ∧ d ≤ R.frames ∧ 64 * d ≤ R.locals
def mLM (X : CxM) : Nat := X.2.2.2.2.2.2.2.2.2.2.1
/-- a word of the tables holds wherever the tables are warmer than the start's -/
theorem wdM {G : GXM} {s : State} {args : Array Value} {w : Cond} (hG : GokM G) (hW : G.1.WarmedH s.vm) (hw : w ∈ lw_tbl) (hg : goodWord w = true) : w.before args s = true := by
  obtain ⟨a0, h⟩ := hG.1
  exact word_at hW (good_of_word hg) (h w hw)
theorem kM {G : GXM} {s : State} (hG : GokM G) (hW : G.1.WarmedH s.vm) : va_K G.2.1 clsM (tysM G.2.2.1) s := va_K.moved hW.alike hG.2.1
theorem exM_si {G : GXM} {M : Mem} {a i : Nat} {x : Int32} (h : exM G M) (ha : ownM M a = true) (hc : cnM M ≤ 5000) : exM G (siM M a i x) := by
  intro y h1 h2
  have h3 := ownM_p ha
  rw [tgM_si, giM_si_row (by omega)]
  exact h y h1 h2
/-- a write of one cell -/
theorem WbM_put {G : GXM} {M M1 : Mem} {H H1 : Heap} {locs : List Loc} {a k : Nat} {e : va_E} (h : WbM G M H locs) (ha : ownM M a = true) (hc : cnM M1 = cnM M) (he : ceM G.2.2.2.1 G.2.2.1 M1 a = e) (ho : ∀ b, b ≠ a → ceM G.2.2.2.1 G.2.2.1 M1 b = ceM G.2.2.2.1 G.2.2.1 M b) (hx : exM G M1)
    (hat : va_at G.2.1 clsM (G.2.2.2.1 a, e) H1) (z : H1.size = H.size) (oq : ∀ q : Nat, q ≠ G.2.2.2.1 a → H1[q]? = H[q]?) : WbM G M1 H1 (locs ++ [⟨G.2.2.2.1 a, k⟩]) := by
  obtain ⟨hP, hD, hS, hE, hn, hz⟩ := h
  have hs := wsM_set ha hc he ho
  refine ⟨?_, ?_, hS.put z oq (hD.2 (a - 1) _ (wsM_at ha)), hx, by rw [hc]; exact hn, fun g => by rw [z, hc]; exact hz g⟩
  · rw [← hs]; exact hP.set hD (wsM_at ha) hat oq
  · rw [← hs]; exact hD.set (wsM_at ha)
section ROWS
variable {G : GXM} {X : CxM} {cc : ByteArray} {own : String} {pc : Nat} {L : List (Nat × Value)} {st : List Value} {M : Mem} {k n : Nat}
theorem lvM_at {ls : Array Slot} {nL : Nat} {ad : Nat → Nat} (h : lv_has ls nL (L.map (fun q => (q.1, rvM ad q.2)))) {j i : Nat} {v : Value} (hj : L[j]? = some (i, v)) : ls[i]? = some (.val (rvM ad v)) := by
  refine lv_at h j ?_
  rw [List.getElem?_map, hj]; rfl
theorem lvM_f1 {ad : Nat → Nat} (i : Nat) : ∀ L : List (Nat × Value), (L.map (fun q => (q.1, rvM ad q.2))).filter (fun q => !(q.1 == i) && !(q.1 + 1 == i && q.2.category == 2)) = (L.filter (fun q => !(q.1 == i) && !(q.1 + 1 == i && q.2.category == 2))).map (fun q => (q.1, rvM ad q.2))
  | [] => rfl
  | q :: L => by
    rw [List.map_cons, List.filter_cons, List.filter_cons, lvM_f1 i L]
    simp only [rvM_cat]
    split <;> rfl
theorem lvM_f2 {ad : Nat → Nat} (i : Nat) : ∀ L : List (Nat × Value), (L.map (fun q => (q.1, rvM ad q.2))).filter (fun q => !(q.1 == i) && (!(q.1 == i + 1) && !(q.1 + 1 == i && q.2.category == 2))) = (L.filter (fun q => !(q.1 == i) && (!(q.1 == i + 1) && !(q.1 + 1 == i && q.2.category == 2)))).map (fun q => (q.1, rvM ad q.2))
  | [] => rfl
  | q :: L => by
    rw [List.map_cons, List.filter_cons, List.filter_cons, lvM_f2 i L]
    simp only [rvM_cat]
    split <;> rfl
/-- the locals that are told, fewer or in another order -/
theorem zz_loc {L1 : List (Nat × Value)} (ks : List Nat) (hl : lv_pick L ks = L1) (kk : ZM G X pc L1 st M k n) : ZM G X pc L st M k n := by
  obtain ⟨p, l, e, R, s, m, args, below, meth, c, nL, Q, d⟩ := X
  intro H locs ls hW h
  refine kk H locs ls hW (lv_sub h ks ?_)
  subst hl
  simp only [lv_pick, List.map_filterMap, List.getElem?_map]
theorem zz_iconst (C : CoM G X cc own) {i : Int} {v : Int32} (hd : decode cc pc = .ok (.iconst i, 1)) (hv : Int32.ofInt i = v) (kk : ZM G X (pc + 1) L (.int v :: st) M k n) : ZM G X pc L st M k n := by
  obtain ⟨p, l, e, R, s, m, args, below, meth, c, nL, Q, d⟩ := X
  intro H locs ls hW h
  exact lv_iconst C.1 C.2.1 hd hv (kk H locs ls hW h)
theorem zz_bipush (C : CoM G X cc own) {i : Int} {v : Int32} (hd : decode cc pc = .ok (.bipush i, 2)) (hv : (Int8.ofInt i).toInt32 = v) (kk : ZM G X (pc + 2) L (.int v :: st) M k n) : ZM G X pc L st M k n := by
  obtain ⟨p, l, e, R, s, m, args, below, meth, c, nL, Q, d⟩ := X
  intro H locs ls hW h
  exact lv_bipush C.1 C.2.1 hd hv (kk H locs ls hW h)
theorem zz_sipush (C : CoM G X cc own) {i : Int} {v : Int32} (hd : decode cc pc = .ok (.sipush i, 3)) (hv : (Int16.ofInt i).toInt32 = v) (kk : ZM G X (pc + 3) L (.int v :: st) M k n) : ZM G X pc L st M k n := by
  obtain ⟨p, l, e, R, s, m, args, below, meth, c, nL, Q, d⟩ := X
  intro H locs ls hW h
  exact lv_sipush C.1 C.2.1 hd hv (kk H locs ls hW h)
theorem zz_ldc (C : CoM G X cc own) {i : Nat} {v : Int32} (hd : decode cc pc = .ok (.ldc i, 2)) (hw : Cond.constant own i v ∈ lw_tbl) (hg : goodWord (Cond.constant own i v) = true) (kk : ZM G X (pc + 2) L (.int v :: st) M k n) : ZM G X pc L st M k n := by
  obtain ⟨p, l, e, R, s, m, args, below, meth, c, nL, Q, d⟩ := X
  intro H locs ls hW h
  exact lv_ldc C.1 C.2.1 C.2.2.2.1 (wdM C.2.2.2.2.2.2.1 C.2.2.2.2.2.1 hw hg) hd (kk H locs ls hW h)
theorem zz_ldcw (C : CoM G X cc own) {i : Nat} {v : Int32} (hd : decode cc pc = .ok (.ldc_w i, 3)) (hw : Cond.constant own i v ∈ lw_tbl) (hg : goodWord (Cond.constant own i v) = true) (kk : ZM G X (pc + 3) L (.int v :: st) M k n) : ZM G X pc L st M k n := by
  obtain ⟨p, l, e, R, s, m, args, below, meth, c, nL, Q, d⟩ := X
  intro H locs ls hW h
  exact lv_ldcw C.1 C.2.1 C.2.2.2.1 (wdM C.2.2.2.2.2.2.1 C.2.2.2.2.2.1 hw hg) hd (kk H locs ls hW h)
theorem zz_ldc2 (C : CoM G X cc own) {i : Nat} {v : Int64} (hd : decode cc pc = .ok (.ldc2_w i, 3)) (hw : Cond.constantLong own i v ∈ lw_tbl) (hg : goodWord (Cond.constantLong own i v) = true) (kk : ZM G X (pc + 3) L (.long v :: st) M k n) : ZM G X pc L st M k n := by
  obtain ⟨p, l, e, R, s, m, args, below, meth, c, nL, Q, d⟩ := X
  intro H locs ls hW h
  exact lv_ldc2 C.1 C.2.1 C.2.2.2.1 (wdM C.2.2.2.2.2.2.1 C.2.2.2.2.2.1 hw hg) hd (kk H locs ls hW h)
theorem zz_iload_n (C : CoM G X cc own) {f : Fin 4} {i : Nat} {x : Int32} (j : Nat) (hd : decode cc pc = .ok (.iload_n f, 1)) (hi : (f : Nat) = i) (hl : L[j]? = some (i, .int x)) (kk : ZM G X (pc + 1) L (.int x :: st) M k n) : ZM G X pc L st M k n := by
  obtain ⟨p, l, e, R, s, m, args, below, meth, c, nL, Q, d⟩ := X
  intro H locs ls hW h
  exact lv_iload_n C.1 C.2.1 hd hi (lvM_at h hl) (kk H locs ls hW h)
theorem zz_iload (C : CoM G X cc own) {i : Nat} {x : Int32} (j : Nat) (hd : decode cc pc = .ok (.iload i, 2)) (hl : L[j]? = some (i, .int x)) (kk : ZM G X (pc + 2) L (.int x :: st) M k n) : ZM G X pc L st M k n := by
  obtain ⟨p, l, e, R, s, m, args, below, meth, c, nL, Q, d⟩ := X
  intro H locs ls hW h
  exact lv_iload C.1 C.2.1 hd (lvM_at h hl) (kk H locs ls hW h)
theorem zz_lload_n (C : CoM G X cc own) {f : Fin 4} {i : Nat} {x : Int64} (j : Nat) (hd : decode cc pc = .ok (.lload_n f, 1)) (hi : (f : Nat) = i) (hl : L[j]? = some (i, .long x)) (kk : ZM G X (pc + 1) L (.long x :: st) M k n) : ZM G X pc L st M k n := by
  obtain ⟨p, l, e, R, s, m, args, below, meth, c, nL, Q, d⟩ := X
  intro H locs ls hW h
  exact lv_lload_n C.1 C.2.1 hd hi (lvM_at h hl) (kk H locs ls hW h)
theorem zz_lload (C : CoM G X cc own) {i : Nat} {x : Int64} (j : Nat) (hd : decode cc pc = .ok (.lload i, 2)) (hl : L[j]? = some (i, .long x)) (kk : ZM G X (pc + 2) L (.long x :: st) M k n) : ZM G X pc L st M k n := by
  obtain ⟨p, l, e, R, s, m, args, below, meth, c, nL, Q, d⟩ := X
  intro H locs ls hW h
  exact lv_lload C.1 C.2.1 hd (lvM_at h hl) (kk H locs ls hW h)
theorem zz_aload_n (C : CoM G X cc own) {f : Fin 4} {i x : Nat} (j : Nat) (hd : decode cc pc = .ok (.aload_n f, 1)) (hi : (f : Nat) = i) (hl : L[j]? = some (i, .ref x)) (kk : ZM G X (pc + 1) L (.ref x :: st) M k n) : ZM G X pc L st M k n := by
  obtain ⟨p, l, e, R, s, m, args, below, meth, c, nL, Q, d⟩ := X
  intro H locs ls hW h
  exact lv_aload_n C.1 C.2.1 hd hi (lvM_at h hl) (kk H locs ls hW h)
theorem zz_aload (C : CoM G X cc own) {i x : Nat} (j : Nat) (hd : decode cc pc = .ok (.aload i, 2)) (hl : L[j]? = some (i, .ref x)) (kk : ZM G X (pc + 2) L (.ref x :: st) M k n) : ZM G X pc L st M k n := by
  obtain ⟨p, l, e, R, s, m, args, below, meth, c, nL, Q, d⟩ := X
  intro H locs ls hW h
  exact lv_aload C.1 C.2.1 hd (lvM_at h hl) (kk H locs ls hW h)
theorem zz_istore_n (C : CoM G X cc own) {f : Fin 4} {i : Nat} {x : Int32} {L1 : List (Nat × Value)} (hd : decode cc pc = .ok (.istore_n f, 1)) (hi : (f : Nat) = i) {mL : Nat} (hm : mLM X = mL) (hn : i < mL) (hl : (i, Value.int x) :: L.filter (fun q => !(q.1 == i) && !(q.1 + 1 == i && q.2.category == 2)) = L1) (kk : ZM G X (pc + 1) L1 st M k n) : ZM G X pc L (.int x :: st) M k n := by
  obtain ⟨p, l, e, R, s, m, args, below, meth, c, nL, Q, d⟩ := X
  intro H locs ls hW h
  have hn : _ := (show _ < nL from hm.symm ▸ hn)
  refine lv_istore_n C.1 C.2.1 hd hi h hn (lv' := L1.map (fun q => (q.1, rvM G.2.2.2.1 q.2))) ?_ (fun ls1 h1 => kk H locs ls1 hW h1)
  rw [lvM_f1, ← hl]; rfl
theorem zz_istore (C : CoM G X cc own) {i : Nat} {x : Int32} {L1 : List (Nat × Value)} (hd : decode cc pc = .ok (.istore i, 2)) {mL : Nat} (hm : mLM X = mL) (hn : i < mL) (hl : (i, Value.int x) :: L.filter (fun q => !(q.1 == i) && !(q.1 + 1 == i && q.2.category == 2)) = L1) (kk : ZM G X (pc + 2) L1 st M k n) : ZM G X pc L (.int x :: st) M k n := by
  obtain ⟨p, l, e, R, s, m, args, below, meth, c, nL, Q, d⟩ := X
  intro H locs ls hW h
  have hn : _ := (show _ < nL from hm.symm ▸ hn)
  refine lv_istore C.1 C.2.1 hd h hn (lv' := L1.map (fun q => (q.1, rvM G.2.2.2.1 q.2))) ?_ (fun ls1 h1 => kk H locs ls1 hW h1)
  rw [lvM_f1, ← hl]; rfl
theorem zz_lstore_n (C : CoM G X cc own) {f : Fin 4} {i : Nat} {x : Int64} {L1 : List (Nat × Value)} (hd : decode cc pc = .ok (.lstore_n f, 1)) (hi : (f : Nat) = i) {mL : Nat} (hm : mLM X = mL) (hn : i + 1 < mL) (hl : (i, Value.long x) :: L.filter (fun q => !(q.1 == i) && (!(q.1 == i + 1) && !(q.1 + 1 == i && q.2.category == 2))) = L1) (kk : ZM G X (pc + 1) L1 st M k n) : ZM G X pc L (.long x :: st) M k n := by
  obtain ⟨p, l, e, R, s, m, args, below, meth, c, nL, Q, d⟩ := X
  intro H locs ls hW h
  have hn : _ := (show _ < nL from hm.symm ▸ hn)
  refine lv_lstore_n C.1 C.2.1 hd hi h hn (lv' := L1.map (fun q => (q.1, rvM G.2.2.2.1 q.2))) ?_ (fun ls1 h1 => kk H locs ls1 hW h1)
  rw [lvM_f2, ← hl]; rfl
theorem zz_lstore (C : CoM G X cc own) {i : Nat} {x : Int64} {L1 : List (Nat × Value)} (hd : decode cc pc = .ok (.lstore i, 2)) {mL : Nat} (hm : mLM X = mL) (hn : i + 1 < mL) (hl : (i, Value.long x) :: L.filter (fun q => !(q.1 == i) && (!(q.1 == i + 1) && !(q.1 + 1 == i && q.2.category == 2))) = L1) (kk : ZM G X (pc + 2) L1 st M k n) : ZM G X pc L (.long x :: st) M k n := by
  obtain ⟨p, l, e, R, s, m, args, below, meth, c, nL, Q, d⟩ := X
  intro H locs ls hW h
  have hn : _ := (show _ < nL from hm.symm ▸ hn)
  refine lv_lstore C.1 C.2.1 hd h hn (lv' := L1.map (fun q => (q.1, rvM G.2.2.2.1 q.2))) ?_ (fun ls1 h1 => kk H locs ls1 hW h1)
  rw [lvM_f2, ← hl]; rfl
theorem zz_astore_n (C : CoM G X cc own) {f : Fin 4} {i : Nat} {x : Nat} {L1 : List (Nat × Value)} (hd : decode cc pc = .ok (.astore_n f, 1)) (hi : (f : Nat) = i) {mL : Nat} (hm : mLM X = mL) (hn : i < mL) (hl : (i, Value.ref x) :: L.filter (fun q => !(q.1 == i) && !(q.1 + 1 == i && q.2.category == 2)) = L1) (kk : ZM G X (pc + 1) L1 st M k n) : ZM G X pc L (.ref x :: st) M k n := by
  obtain ⟨p, l, e, R, s, m, args, below, meth, c, nL, Q, d⟩ := X
  intro H locs ls hW h
  have hn : _ := (show _ < nL from hm.symm ▸ hn)
  refine lv_astore_n C.1 C.2.1 hd hi h hn (lv' := L1.map (fun q => (q.1, rvM G.2.2.2.1 q.2))) ?_ (fun ls1 h1 => kk H locs ls1 hW h1)
  rw [lvM_f1, ← hl]; rfl
theorem zz_astore (C : CoM G X cc own) {i : Nat} {x : Nat} {L1 : List (Nat × Value)} (hd : decode cc pc = .ok (.astore i, 2)) {mL : Nat} (hm : mLM X = mL) (hn : i < mL) (hl : (i, Value.ref x) :: L.filter (fun q => !(q.1 == i) && !(q.1 + 1 == i && q.2.category == 2)) = L1) (kk : ZM G X (pc + 2) L1 st M k n) : ZM G X pc L (.ref x :: st) M k n := by
  obtain ⟨p, l, e, R, s, m, args, below, meth, c, nL, Q, d⟩ := X
  intro H locs ls hW h
  have hn : _ := (show _ < nL from hm.symm ▸ hn)
  refine lv_astore C.1 C.2.1 hd h hn (lv' := L1.map (fun q => (q.1, rvM G.2.2.2.1 q.2))) ?_ (fun ls1 h1 => kk H locs ls1 hW h1)
  rw [lvM_f1, ← hl]; rfl
theorem zz_iinc (C : CoM G X cc own) {i : Nat} {j : Int} {x v : Int32} {L1 : List (Nat × Value)} (q : Nat) (hd : decode cc pc = .ok (.iinc i j, 3)) (hk : L[q]? = some (i, .int x)) (hv : x + Int32.ofInt j = v) {mL : Nat} (hm : mLM X = mL) (hn : i < mL) (hl : (i, Value.int v) :: L.filter (fun q => !(q.1 == i) && !(q.1 + 1 == i && q.2.category == 2)) = L1) (kk : ZM G X (pc + 3) L1 st M k n) : ZM G X pc L st M k n := by
  obtain ⟨p, l, e, R, s, m, args, below, meth, c, nL, Q, d⟩ := X
  intro H locs ls hW h
  have hn : _ := (show _ < nL from hm.symm ▸ hn)
  refine lv_iinc (k := q) C.1 C.2.1 hd h (by rw [List.getElem?_map, hk]; rfl) hv hn (lv' := L1.map (fun q => (q.1, rvM G.2.2.2.1 q.2))) ?_ (fun ls1 h1 => kk H locs ls1 hW h1)
  rw [lvM_f1, ← hl]; rfl
theorem zz_iadd (C : CoM G X cc own) {x y : Int32} (hd : decode cc pc = .ok (.iadd, 1)) (kk : ZM G X (pc + 1) L (.int (x + y) :: st) M k n) : ZM G X pc L (.int y :: .int x :: st) M k n := by
  obtain ⟨p, l, e, R, s, m, args, below, meth, c, nL, Q, d⟩ := X
  intro H locs ls hW h
  exact lv_iadd C.1 C.2.1 hd (kk H locs ls hW h)
theorem zz_isub (C : CoM G X cc own) {x y : Int32} (hd : decode cc pc = .ok (.isub, 1)) (kk : ZM G X (pc + 1) L (.int (x - y) :: st) M k n) : ZM G X pc L (.int y :: .int x :: st) M k n := by
  obtain ⟨p, l, e, R, s, m, args, below, meth, c, nL, Q, d⟩ := X
  intro H locs ls hW h
  exact lv_isub C.1 C.2.1 hd (kk H locs ls hW h)
theorem zz_imul (C : CoM G X cc own) {x y : Int32} (hd : decode cc pc = .ok (.imul, 1)) (kk : ZM G X (pc + 1) L (.int (x * y) :: st) M k n) : ZM G X pc L (.int y :: .int x :: st) M k n := by
  obtain ⟨p, l, e, R, s, m, args, below, meth, c, nL, Q, d⟩ := X
  intro H locs ls hW h
  exact lv_imul C.1 C.2.1 hd (kk H locs ls hW h)
theorem zz_iand (C : CoM G X cc own) {x y : Int32} (hd : decode cc pc = .ok (.iand, 1)) (kk : ZM G X (pc + 1) L (.int (x &&& y) :: st) M k n) : ZM G X pc L (.int y :: .int x :: st) M k n := by
  obtain ⟨p, l, e, R, s, m, args, below, meth, c, nL, Q, d⟩ := X
  intro H locs ls hW h
  exact lv_iand C.1 C.2.1 hd (kk H locs ls hW h)
theorem zz_ior (C : CoM G X cc own) {x y : Int32} (hd : decode cc pc = .ok (.ior, 1)) (kk : ZM G X (pc + 1) L (.int (x ||| y) :: st) M k n) : ZM G X pc L (.int y :: .int x :: st) M k n := by
  obtain ⟨p, l, e, R, s, m, args, below, meth, c, nL, Q, d⟩ := X
  intro H locs ls hW h
  exact lv_ior C.1 C.2.1 hd (kk H locs ls hW h)
theorem zz_ixor (C : CoM G X cc own) {x y : Int32} (hd : decode cc pc = .ok (.ixor, 1)) (kk : ZM G X (pc + 1) L (.int (x ^^^ y) :: st) M k n) : ZM G X pc L (.int y :: .int x :: st) M k n := by
  obtain ⟨p, l, e, R, s, m, args, below, meth, c, nL, Q, d⟩ := X
  intro H locs ls hW h
  exact lv_ixor C.1 C.2.1 hd (kk H locs ls hW h)
theorem zz_idiv (C : CoM G X cc own) {x y : Int32} (hd : decode cc pc = .ok (.idiv, 1)) (hne : ¬ y = 0) (kk : ZM G X (pc + 1) L (.int (x / y) :: st) M k n) : ZM G X pc L (.int y :: .int x :: st) M k n := by
  obtain ⟨p, l, e, R, s, m, args, below, meth, c, nL, Q, d⟩ := X
  intro H locs ls hW h
  exact lv_idiv C.1 C.2.1 hd hne (kk H locs ls hW h)
theorem zz_irem (C : CoM G X cc own) {x y : Int32} (hd : decode cc pc = .ok (.irem, 1)) (hne : ¬ y = 0) (kk : ZM G X (pc + 1) L (.int (x - x / y * y) :: st) M k n) : ZM G X pc L (.int y :: .int x :: st) M k n := by
  obtain ⟨p, l, e, R, s, m, args, below, meth, c, nL, Q, d⟩ := X
  intro H locs ls hW h
  exact lv_irem C.1 C.2.1 hd hne (kk H locs ls hW h)
theorem zz_ishl (C : CoM G X cc own) {x y : Int32} (hd : decode cc pc = .ok (.ishl, 1)) (kk : ZM G X (pc + 1) L (.int (x <<< (y &&& 31)) :: st) M k n) : ZM G X pc L (.int y :: .int x :: st) M k n := by
  obtain ⟨p, l, e, R, s, m, args, below, meth, c, nL, Q, d⟩ := X
  intro H locs ls hW h
  exact lv_ishl C.1 C.2.1 hd (kk H locs ls hW h)
theorem zz_ishr (C : CoM G X cc own) {x y : Int32} (hd : decode cc pc = .ok (.ishr, 1)) (kk : ZM G X (pc + 1) L (.int (x >>> (y &&& 31)) :: st) M k n) : ZM G X pc L (.int y :: .int x :: st) M k n := by
  obtain ⟨p, l, e, R, s, m, args, below, meth, c, nL, Q, d⟩ := X
  intro H locs ls hW h
  exact lv_ishr C.1 C.2.1 hd (kk H locs ls hW h)
theorem zz_ladd (C : CoM G X cc own) {x y : Int64} (hd : decode cc pc = .ok (.ladd, 1)) (kk : ZM G X (pc + 1) L (.long (x + y) :: st) M k n) : ZM G X pc L (.long y :: .long x :: st) M k n := by
  obtain ⟨p, l, e, R, s, m, args, below, meth, c, nL, Q, d⟩ := X
  intro H locs ls hW h
  exact lv_ladd C.1 C.2.1 hd (kk H locs ls hW h)
theorem zz_lmul (C : CoM G X cc own) {x y : Int64} (hd : decode cc pc = .ok (.lmul, 1)) (kk : ZM G X (pc + 1) L (.long (x * y) :: st) M k n) : ZM G X pc L (.long y :: .long x :: st) M k n := by
  obtain ⟨p, l, e, R, s, m, args, below, meth, c, nL, Q, d⟩ := X
  intro H locs ls hW h
  exact lv_lmul C.1 C.2.1 hd (kk H locs ls hW h)
theorem zz_land (C : CoM G X cc own) {x y : Int64} (hd : decode cc pc = .ok (.land, 1)) (kk : ZM G X (pc + 1) L (.long (x &&& y) :: st) M k n) : ZM G X pc L (.long y :: .long x :: st) M k n := by
  obtain ⟨p, l, e, R, s, m, args, below, meth, c, nL, Q, d⟩ := X
  intro H locs ls hW h
  exact lv_land C.1 C.2.1 hd (kk H locs ls hW h)
theorem zz_lor (C : CoM G X cc own) {x y : Int64} (hd : decode cc pc = .ok (.lor, 1)) (kk : ZM G X (pc + 1) L (.long (x ||| y) :: st) M k n) : ZM G X pc L (.long y :: .long x :: st) M k n := by
  obtain ⟨p, l, e, R, s, m, args, below, meth, c, nL, Q, d⟩ := X
  intro H locs ls hW h
  exact lv_lor C.1 C.2.1 hd (kk H locs ls hW h)
theorem zz_lrem (C : CoM G X cc own) {x y : Int64} (hd : decode cc pc = .ok (.lrem, 1)) (hne : ¬ y = 0) (kk : ZM G X (pc + 1) L (.long (x - x / y * y) :: st) M k n) : ZM G X pc L (.long y :: .long x :: st) M k n := by
  obtain ⟨p, l, e, R, s, m, args, below, meth, c, nL, Q, d⟩ := X
  intro H locs ls hW h
  exact lv_lrem C.1 C.2.1 hd hne (kk H locs ls hW h)
theorem zz_iushr (C : CoM G X cc own) {x y : Int32} (hd : decode cc pc = .ok (.iushr, 1)) (kk : ZM G X (pc + 1) L (.int ((x.toUInt32 >>> (y.toUInt32 &&& Int32.toUInt32 31)).toInt32) :: st) M k n) : ZM G X pc L (.int y :: .int x :: st) M k n := by
  obtain ⟨p, l, e, R, s, m, args, below, meth, c, nL, Q, d⟩ := X
  intro H locs ls hW h
  exact lv_iushr C.1 C.2.1 hd rfl (kk H locs ls hW h)
theorem zz_lushr (C : CoM G X cc own) {x : Int64} {y : Int32} (hd : decode cc pc = .ok (.lushr, 1)) (kk : ZM G X (pc + 1) L (.long ((x.toUInt64 >>> (y.toInt64.toUInt64 &&& Int64.toUInt64 63)).toInt64) :: st) M k n) : ZM G X pc L (.int y :: .long x :: st) M k n := by
  obtain ⟨p, l, e, R, s, m, args, below, meth, c, nL, Q, d⟩ := X
  intro H locs ls hW h
  exact lv_lushr C.1 C.2.1 hd rfl (kk H locs ls hW h)
theorem zz_lshl (C : CoM G X cc own) {x : Int64} {y : Int32} (hd : decode cc pc = .ok (.lshl, 1)) (kk : ZM G X (pc + 1) L (.long (x <<< (y.toInt64 &&& 63)) :: st) M k n) : ZM G X pc L (.int y :: .long x :: st) M k n := by
  obtain ⟨p, l, e, R, s, m, args, below, meth, c, nL, Q, d⟩ := X
  intro H locs ls hW h
  exact lv_lshl C.1 C.2.1 hd rfl (kk H locs ls hW h)
theorem zz_i2l (C : CoM G X cc own) {x : Int32} (hd : decode cc pc = .ok (.i2l, 1)) (kk : ZM G X (pc + 1) L (.long x.toInt64 :: st) M k n) : ZM G X pc L (.int x :: st) M k n := by
  obtain ⟨p, l, e, R, s, m, args, below, meth, c, nL, Q, d⟩ := X
  intro H locs ls hW h
  exact lv_i2l C.1 C.2.1 hd rfl (kk H locs ls hW h)
theorem zz_l2i (C : CoM G X cc own) {x : Int64} (hd : decode cc pc = .ok (.l2i, 1)) (kk : ZM G X (pc + 1) L (.int x.toInt32 :: st) M k n) : ZM G X pc L (.long x :: st) M k n := by
  obtain ⟨p, l, e, R, s, m, args, below, meth, c, nL, Q, d⟩ := X
  intro H locs ls hW h
  exact lv_l2i C.1 C.2.1 hd rfl (kk H locs ls hW h)
theorem zz_i2c (C : CoM G X cc own) {x : Int32} (hd : decode cc pc = .ok (.i2c, 1)) (kk : ZM G X (pc + 1) L (.int (x.toUInt32 % 65536).toInt32 :: st) M k n) : ZM G X pc L (.int x :: st) M k n := by
  obtain ⟨p, l, e, R, s, m, args, below, meth, c, nL, Q, d⟩ := X
  intro H locs ls hW h
  exact lv_i2c C.1 C.2.1 hd rfl (kk H locs ls hW h)
theorem zz_lcmp (C : CoM G X cc own) {x y : Int64} (hd : decode cc pc = .ok (.lcmp, 1)) (kk : ZM G X (pc + 1) L (.int (lg_cmp x y) :: st) M k n) : ZM G X pc L (.long y :: .long x :: st) M k n := by
  obtain ⟨p, l, e, R, s, m, args, below, meth, c, nL, Q, d⟩ := X
  intro H locs ls hW h
  exact W.lcmp C.1 C.2.1 hd (kk H locs ls hW h)
theorem zz_dup (C : CoM G X cc own) {v : Value} (hd : decode cc pc = .ok (.dup, 1)) (hc : v.category = 1) (kk : ZM G X (pc + 1) L (v :: v :: st) M k n) : ZM G X pc L (v :: st) M k n := by
  obtain ⟨p, l, e, R, s, m, args, below, meth, c, nL, Q, d⟩ := X
  intro H locs ls hW h
  exact lv_dup C.1 C.2.1 hd (by rw [rvM_cat]; exact hc) (kk H locs ls hW h)
theorem zz_pop (C : CoM G X cc own) {v : Value} (hd : decode cc pc = .ok (.pop, 1)) (hc : v.category = 1) (kk : ZM G X (pc + 1) L st M k n) : ZM G X pc L (v :: st) M k n := by
  obtain ⟨p, l, e, R, s, m, args, below, meth, c, nL, Q, d⟩ := X
  intro H locs ls hW h
  exact lv_pop C.1 C.2.1 hd (by rw [rvM_cat]; exact hc) (kk H locs ls hW h)
theorem zz_dup2 (C : CoM G X cc own) {v w : Value} (hd : decode cc pc = .ok (.dup2, 1)) (hc : v.category = 1) (hc2 : w.category = 1) (kk : ZM G X (pc + 1) L (v :: w :: v :: w :: st) M k n) : ZM G X pc L (v :: w :: st) M k n := by
  obtain ⟨p, l, e, R, s, m, args, below, meth, c, nL, Q, d⟩ := X
  intro H locs ls hW h
  exact lv_dup2_11 C.1 C.2.1 hd (by rw [rvM_cat]; exact hc) (by rw [rvM_cat]; exact hc2) (kk H locs ls hW h)
theorem zz_icmp_eq (C : CoM G X cc own) {off : Int} {tgt : Nat} {x y : Int32} (hd : decode cc pc = .ok (.if_icmp .eq off, 3)) (ht : (pc : Int) + off = (tgt : Int)) (kt : x = y → ZM G X tgt L st M k n) (kf : ¬ x = y → ZM G X (pc + 3) L st M k n) : ZM G X pc L (.int y :: .int x :: st) M k n := by
  obtain ⟨p, l, e, R, s, m, args, below, meth, c, nL, Q, d⟩ := X
  intro H locs ls hW h
  exact lv_icmp_eq C.1 C.2.1 hd ht (fun q => kt q H locs ls hW h) (fun q => kf q H locs ls hW h)
theorem zz_if_eq (C : CoM G X cc own) {off : Int} {tgt : Nat} {x : Int32} (hd : decode cc pc = .ok (.ifCond .eq off, 3)) (ht : (pc : Int) + off = (tgt : Int)) (kt : x = 0 → ZM G X tgt L st M k n) (kf : ¬ x = 0 → ZM G X (pc + 3) L st M k n) : ZM G X pc L (.int x :: st) M k n := by
  obtain ⟨p, l, e, R, s, m, args, below, meth, c, nL, Q, d⟩ := X
  intro H locs ls hW h
  exact lv_if_eq C.1 C.2.1 hd ht (fun q => kt q H locs ls hW h) (fun q => kf q H locs ls hW h)
theorem zz_icmp_ne (C : CoM G X cc own) {off : Int} {tgt : Nat} {x y : Int32} (hd : decode cc pc = .ok (.if_icmp .ne off, 3)) (ht : (pc : Int) + off = (tgt : Int)) (kt : ¬ x = y → ZM G X tgt L st M k n) (kf : x = y → ZM G X (pc + 3) L st M k n) : ZM G X pc L (.int y :: .int x :: st) M k n := by
  obtain ⟨p, l, e, R, s, m, args, below, meth, c, nL, Q, d⟩ := X
  intro H locs ls hW h
  exact lv_icmp_ne C.1 C.2.1 hd ht (fun q => kt q H locs ls hW h) (fun q => kf q H locs ls hW h)
theorem zz_if_ne (C : CoM G X cc own) {off : Int} {tgt : Nat} {x : Int32} (hd : decode cc pc = .ok (.ifCond .ne off, 3)) (ht : (pc : Int) + off = (tgt : Int)) (kt : ¬ x = 0 → ZM G X tgt L st M k n) (kf : x = 0 → ZM G X (pc + 3) L st M k n) : ZM G X pc L (.int x :: st) M k n := by
  obtain ⟨p, l, e, R, s, m, args, below, meth, c, nL, Q, d⟩ := X
  intro H locs ls hW h
  exact lv_if_ne C.1 C.2.1 hd ht (fun q => kt q H locs ls hW h) (fun q => kf q H locs ls hW h)
theorem zz_icmp_lt (C : CoM G X cc own) {off : Int} {tgt : Nat} {x y : Int32} (hd : decode cc pc = .ok (.if_icmp .lt off, 3)) (ht : (pc : Int) + off = (tgt : Int)) (kt : x < y → ZM G X tgt L st M k n) (kf : ¬ x < y → ZM G X (pc + 3) L st M k n) : ZM G X pc L (.int y :: .int x :: st) M k n := by
  obtain ⟨p, l, e, R, s, m, args, below, meth, c, nL, Q, d⟩ := X
  intro H locs ls hW h
  exact lv_icmp_lt C.1 C.2.1 hd ht (fun q => kt q H locs ls hW h) (fun q => kf q H locs ls hW h)
theorem zz_if_lt (C : CoM G X cc own) {off : Int} {tgt : Nat} {x : Int32} (hd : decode cc pc = .ok (.ifCond .lt off, 3)) (ht : (pc : Int) + off = (tgt : Int)) (kt : x < 0 → ZM G X tgt L st M k n) (kf : ¬ x < 0 → ZM G X (pc + 3) L st M k n) : ZM G X pc L (.int x :: st) M k n := by
  obtain ⟨p, l, e, R, s, m, args, below, meth, c, nL, Q, d⟩ := X
  intro H locs ls hW h
  exact lv_if_lt C.1 C.2.1 hd ht (fun q => kt q H locs ls hW h) (fun q => kf q H locs ls hW h)
theorem zz_icmp_ge (C : CoM G X cc own) {off : Int} {tgt : Nat} {x y : Int32} (hd : decode cc pc = .ok (.if_icmp .ge off, 3)) (ht : (pc : Int) + off = (tgt : Int)) (kt : y ≤ x → ZM G X tgt L st M k n) (kf : ¬ y ≤ x → ZM G X (pc + 3) L st M k n) : ZM G X pc L (.int y :: .int x :: st) M k n := by
  obtain ⟨p, l, e, R, s, m, args, below, meth, c, nL, Q, d⟩ := X
  intro H locs ls hW h
  exact lv_icmp_ge C.1 C.2.1 hd ht (fun q => kt q H locs ls hW h) (fun q => kf q H locs ls hW h)
theorem zz_if_ge (C : CoM G X cc own) {off : Int} {tgt : Nat} {x : Int32} (hd : decode cc pc = .ok (.ifCond .ge off, 3)) (ht : (pc : Int) + off = (tgt : Int)) (kt : 0 ≤ x → ZM G X tgt L st M k n) (kf : ¬ 0 ≤ x → ZM G X (pc + 3) L st M k n) : ZM G X pc L (.int x :: st) M k n := by
  obtain ⟨p, l, e, R, s, m, args, below, meth, c, nL, Q, d⟩ := X
  intro H locs ls hW h
  exact lv_if_ge C.1 C.2.1 hd ht (fun q => kt q H locs ls hW h) (fun q => kf q H locs ls hW h)
theorem zz_icmp_gt (C : CoM G X cc own) {off : Int} {tgt : Nat} {x y : Int32} (hd : decode cc pc = .ok (.if_icmp .gt off, 3)) (ht : (pc : Int) + off = (tgt : Int)) (kt : y < x → ZM G X tgt L st M k n) (kf : ¬ y < x → ZM G X (pc + 3) L st M k n) : ZM G X pc L (.int y :: .int x :: st) M k n := by
  obtain ⟨p, l, e, R, s, m, args, below, meth, c, nL, Q, d⟩ := X
  intro H locs ls hW h
  exact lv_icmp_gt C.1 C.2.1 hd ht (fun q => kt q H locs ls hW h) (fun q => kf q H locs ls hW h)
theorem zz_if_gt (C : CoM G X cc own) {off : Int} {tgt : Nat} {x : Int32} (hd : decode cc pc = .ok (.ifCond .gt off, 3)) (ht : (pc : Int) + off = (tgt : Int)) (kt : 0 < x → ZM G X tgt L st M k n) (kf : ¬ 0 < x → ZM G X (pc + 3) L st M k n) : ZM G X pc L (.int x :: st) M k n := by
  obtain ⟨p, l, e, R, s, m, args, below, meth, c, nL, Q, d⟩ := X
  intro H locs ls hW h
  exact lv_if_gt C.1 C.2.1 hd ht (fun q => kt q H locs ls hW h) (fun q => kf q H locs ls hW h)
theorem zz_icmp_le (C : CoM G X cc own) {off : Int} {tgt : Nat} {x y : Int32} (hd : decode cc pc = .ok (.if_icmp .le off, 3)) (ht : (pc : Int) + off = (tgt : Int)) (kt : x ≤ y → ZM G X tgt L st M k n) (kf : ¬ x ≤ y → ZM G X (pc + 3) L st M k n) : ZM G X pc L (.int y :: .int x :: st) M k n := by
  obtain ⟨p, l, e, R, s, m, args, below, meth, c, nL, Q, d⟩ := X
  intro H locs ls hW h
  exact lv_icmp_le C.1 C.2.1 hd ht (fun q => kt q H locs ls hW h) (fun q => kf q H locs ls hW h)
theorem zz_if_le (C : CoM G X cc own) {off : Int} {tgt : Nat} {x : Int32} (hd : decode cc pc = .ok (.ifCond .le off, 3)) (ht : (pc : Int) + off = (tgt : Int)) (kt : x ≤ 0 → ZM G X tgt L st M k n) (kf : ¬ x ≤ 0 → ZM G X (pc + 3) L st M k n) : ZM G X pc L (.int x :: st) M k n := by
  obtain ⟨p, l, e, R, s, m, args, below, meth, c, nL, Q, d⟩ := X
  intro H locs ls hW h
  exact lv_if_le C.1 C.2.1 hd ht (fun q => kt q H locs ls hW h) (fun q => kf q H locs ls hW h)
theorem zz_goto (C : CoM G X cc own) {off : Int} {tgt : Nat} (hd : decode cc pc = .ok (.goto off, 3)) (ht : (pc : Int) + off = (tgt : Int)) (kk : ZM G X tgt L st M k n) : ZM G X pc L st M k n := by
  obtain ⟨p, l, e, R, s, m, args, below, meth, c, nL, Q, d⟩ := X
  intro H locs ls hW h
  exact lv_goto C.1 C.2.1 hd ht (kk H locs ls hW h)
theorem zz_tableIn (C : CoM G X cc own) {dflt lo hi : Int} {offs : Array Int} {len : Nat} {x : Int32} {off : Int} {tgt : Nat} (hd : decode cc pc = .ok (.tableswitch dflt lo hi offs, len)) (h1 : ¬ x.toInt < lo) (h2 : ¬ hi < x.toInt) (ho : offs[(x.toInt - lo).toNat]? = some off) (ht : (pc : Int) + off = (tgt : Int)) (kk : ZM G X tgt L st M k n) : ZM G X pc L (.int x :: st) M k n := by
  obtain ⟨p, l, e, R, s, m, args, below, meth, c, nL, Q, d⟩ := X
  intro H locs ls hW h
  exact lv_tableIn C.1 C.2.1 hd h1 h2 ho ht (kk H locs ls hW h)
theorem zz_tableOut (C : CoM G X cc own) {dflt lo hi : Int} {offs : Array Int} {len : Nat} {x : Int32} {tgt : Nat} (hd : decode cc pc = .ok (.tableswitch dflt lo hi offs, len)) (h1 : x.toInt < lo ∨ hi < x.toInt) (ht : (pc : Int) + dflt = (tgt : Int)) (kk : ZM G X tgt L st M k n) : ZM G X pc L (.int x :: st) M k n := by
  obtain ⟨p, l, e, R, s, m, args, below, meth, c, nL, Q, d⟩ := X
  intro H locs ls hW h
  exact lv_tableOut C.1 C.2.1 hd h1 ht (kk H locs ls hW h)
theorem zz_lookup (C : CoM G X cc own) {dflt : Int} {ps : Array (Int × Int)} {len : Nat} {x : Int32} {off : Int} {tgt : Nat} (hd : decode cc pc = .ok (.lookupswitch dflt ps, len)) (hp : (ps.toList.zip (ps.toList.drop 1)).all (fun (a, next) => a.1 < next.1) = true) (ho : Op.lookupswitch.offset ps.toList dflt x.toInt = off) (ht : (pc : Int) + off = (tgt : Int)) (kk : ZM G X tgt L st M k n) : ZM G X pc L (.int x :: st) M k n := by
  obtain ⟨p, l, e, R, s, m, args, below, meth, c, nL, Q, d⟩ := X
  intro H locs ls hW h
  exact lv_lookup C.1 C.2.1 hd hp ho ht (kk H locs ls hW h)
end ROWS
