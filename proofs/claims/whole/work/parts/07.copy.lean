/-! System.arraycopy over the pure memory -/
def cpM (M : Mem) (a0 : Nat) (sp : Int32) (a1 : Nat) (dp n : Int32) : Bool := (ownM M a0 || extM a0) && ownM M a1 && decide ((tgM M a0).1 = 100 ∧ (tgM M a1).1 = 100 ∧ 0 ≤ sp.toInt ∧ 0 ≤ dp.toInt ∧ 0 ≤ n.toInt ∧ sp.toInt + n.toInt ≤ (tgM M a0).2 ∧ dp.toInt + n.toInt ≤ (tgM M a1).2)
theorem ceM_sa_o {ad : Nat → Nat} {cA : Nat → ClassId} {M : Mem} {a b : Nat} {g : Nat → Int32} (h : b ≠ a) : ceM ad cA (saM M a g) b = ceM ad cA M b := ceM_eq rfl (giM_sa_n h) rfl rfl
theorem exM_sa {G : GXM} {M : Mem} {a : Nat} {g : Nat → Int32} (h : exM G M) (ha : ownM M a = true) (hc : cnM M ≤ 5000) : exM G (saM M a g) := by
  intro y h1 h2
  have h3 := ownM_p ha
  rw [tgM_sa, giM_sa_n (by omega)]
  exact h y h1 h2
theorem tnM {z : Int32} (h : 0 ≤ z.toInt) : z.toInt = (z.toNatClampNeg : Int) := by
  show z.toInt = ((z.toInt.toNat : Nat) : Int)
  omega
theorem nlM {z : Int32} (h : 0 ≤ z.toInt) : ¬ z < 0 := by
  intro q
  have := Int32.lt_iff_toInt_lt.mp q
  simp at this
  omega
section COPY
variable {G : GXM} {X : CxM} {cc : ByteArray} {own : String} {pc : Nat} {L : List (Nat × Value)} {st : List Value} {M : Mem} {k n : Nat}
theorem zz_copy (C : CoM G X cc own) {ix a0 a1 : Nat} {sp dp num : Int32} (hd : decode cc pc = .ok (.invokestatic ix, 3)) (hl : Cond.methodLink own ix arraycopyName ∈ lw_tbl) (hw : Cond.native arraycopyName ∈ lw_tbl ∧ Cond.static arraycopyName ∈ lw_tbl ∧ Cond.initialized "java/lang/System" ∈ lw_tbl) (hr : cpM M a0 sp a1 dp num = true) (hdp : 1 ≤ dpM X) (hc : (st.map fun v => v.category).sum ≤ 8)
    (kk : ZM G X (pc + 3) L st (saM M a1 (va_cpy (giM M a0) (giM M a1) (Int32.toNatClampNeg sp) (Int32.toNatClampNeg dp) (Int32.toNatClampNeg num))) k n) : ZM G X pc L (.int num :: .int dp :: .ref a1 :: .int sp :: .ref a0 :: st) M k n := by
  obtain ⟨p, l, e, R, s, m, args, below, meth, c, nL, Q, d⟩ := X
  intro H locs ls hW h
  have hG := C.2.2.2.2.2.2.1
  have hWm := C.2.2.2.2.2.1
  have hK := kM hG hWm
  simp only [cpM, Bool.and_eq_true, Bool.or_eq_true, decide_eq_true_eq] at hr
  obtain ⟨⟨hcase, o1⟩, t0, t1, s1, s2, s3, s4, s5⟩ := hr
  have hd1 : 1 ≤ d := hdp
  have hsrc : ∃ cs : Cell, H[G.2.2.2.1 a0]? = some cs ∧ s.isArrayOf cs .int ∧ cs.vm ≠ .unknown ∧ (tgM M a0).2 ≤ cs.slots.size ∧ ∀ j : Nat, j < (tgM M a0).2 → cs.slots[j]? = some (.int (giM M a0 j)) := by
    rcases hcase with h1 | h1
    · have he := wsM_at (G := G) h1
      rw [ceM_in t0] at he
      refine ⟨_, hW.1 (a0 - 1) _ he, (hK.2 0 _ rfl).1 _ (fun j => .int (giM M a0 j)), (fun q => by cases q), ?_, fun j hj => ?_⟩
      · show _ ≤ (arrV _ _ _).slots.size; rw [arrV_size]; exact Nat.le_refl _
      · show (arrV _ _ _).slots[_]? = _; rw [arrV_read _ _ hj]
    · obtain ⟨cs, q1, q2, q3, q4, q5, q6⟩ := exM_at hW.2.2.2.1 hW.2.2.1 hWm h1
      exact ⟨cs, q1, q2, q3, q4, q6⟩
  obtain ⟨cs, g1, ⟨g2, k0, hk0, cm0, hkk0⟩, g3, g4, g5⟩ := hsrc
  have he1 := wsM_at (G := G) o1
  rw [ceM_in t1] at he1
  have hc1 : H[G.2.2.2.1 a1]? = some (vp_cell (G.2.2.1 0) ((tgM M a1).2, .inl (giM M a1))) := hW.1 (a1 - 1) _ he1
  obtain ⟨-, k1, hk1, cm1, hkk1⟩ := (hK.2 0 _ rfl).1 (tgM M a1).2 (fun j => .int (giM M a1 j))
  have e1 := tnM s1
  have e2 := tnM s2
  have e3 := tnM s3
  intro T hT Y
  obtain ⟨vm', X', step⟩ := Y.arraycopy C.1 C.2.2.2.1 (wdM hG hWm hl rfl) (wdM hG hWm hw.1 rfl) (wdM hG hWm hw.2.1 rfl) (wdM hG hWm hw.2.2 rfl) (src := G.2.2.2.1 a0) (dst := G.2.2.2.1 a1) (cs := cs) (cd := vp_cell (G.2.2.1 0) ((tgM M a1).2, .inl (giM M a1))) (srcPos := sp) (destPos := dp) (n := num) (by rw [hT]; exact g1) (by rw [hT]; exact hc1)
    g2 (fun _ h => by cases h) g3 (fun h => by cases h) hk0 hk1 hkk0 hkk1 (by simp [refKind]) (nlM s1) (nlM s2) (nlM s3)
    (by omega)
    (by show ¬ _ > ((arrV (G.2.2.1 0) (tgM M a1).2 (fun j => .int (giM M a1 j))).slots.size : Int); rw [arrV_size]; omega)
    (fun vm₁ _ i hi => by
      have e : cs.slots.getD (sp.toNatClampNeg + i) .null = .int (giM M a0 (sp.toNatClampNeg + i)) := by
        rw [Array.getD_eq_getD_getElem?, g5 _ (by omega)]
        rfl
      refine ⟨?_, ?_⟩
      · rw [e]
        rfl
      · rw [e]
        exact trivial)
    (g := F0 m pc ls (.int num :: .int dp :: .ref (G.2.2.2.1 a1) :: .int sp :: .ref (G.2.2.2.1 a0) :: st.map (rvM G.2.2.2.1))) rfl (by rw [C.2.2.1]; exact h.1) (rest := st.map (rvM G.2.2.2.1)) rfl (by rw [C.2.1]; exact hd) (Nat.le_trans hd1 C.2.2.2.2.2.2.2.1)
    (by
      have h8 := C.2.2.2.2.2.2.2.2
      have h9 : ((st.map (rvM G.2.2.2.1)).map fun v => v.category).sum ≤ 8 := by rw [catM]; exact hc
      have h10 : nativeFrameWords "java/lang/System" "arraycopy" 5 = 7 := by decide
      show 2 * 0 + _ + (nativeFrameWords "java/lang/System" "arraycopy" 5 + 11) ≤ R.locals
      rw [h10]
      omega)
  have e4 : copied cs (vp_cell (G.2.2.1 0) ((tgM M a1).2, .inl (giM M a1))) sp dp num = vp_cell (G.2.2.1 0) ((tgM M a1).2, .inl (va_cpy (giM M a0) (giM M a1) sp.toNatClampNeg dp.toNatClampNeg num.toNatClampNeg)) := va_copiedX (fun z => .int z) cs (G.2.2.1 0) (giM M a0) (giM M a1) g5 (by omega)
  rw [e4] at X' step
  have hlt : G.2.2.2.1 a1 < H.size := (Array.getElem?_eq_some_iff.mp hc1).1
  have hheap : ((T.setVm vm').setCell (G.2.2.2.1 a1) (vp_cell (G.2.2.1 0) ((tgM M a1).2, .inl (va_cpy (giM M a0) (giM M a1) sp.toNatClampNeg dp.toNatClampNeg num.toNatClampNeg)))).heap = H.setIfInBounds (G.2.2.2.1 a1) (vp_cell (G.2.2.1 0) ((tgM M a1).2, .inl (va_cpy (giM M a0) (giM M a1) sp.toNatClampNeg dp.toNatClampNeg num.toNatClampNeg))) := by rw [← hT]; rfl
  have oq : ∀ q : Nat, q ≠ G.2.2.2.1 a1 → (H.setIfInBounds (G.2.2.2.1 a1) (vp_cell (G.2.2.1 0) ((tgM M a1).2, .inl (va_cpy (giM M a0) (giM M a1) sp.toNatClampNeg dp.toNatClampNeg num.toNatClampNeg))))[q]? = H[q]? := fun q hq => by simp [Array.getElem?_setIfInBounds, Ne.symm hq]
  have hWn := WbM_put (k := 0) (M1 := saM M a1 (va_cpy (giM M a0) (giM M a1) sp.toNatClampNeg dp.toNatClampNeg num.toNatClampNeg)) (e := .inl (G.2.2.1 0, (tgM M a1).2, .inl (va_cpy (giM M a0) (giM M a1) sp.toNatClampNeg dp.toNatClampNeg num.toNatClampNeg))) hW o1 rfl (by rw [ceM_in (M := saM M a1 _) t1, giM_sa_s]; rfl) (fun b hb => ceM_sa_o hb) (exM_sa hW.2.2.2.1 o1 hW.2.2.2.2.1)
    (H1 := H.setIfInBounds (G.2.2.2.1 a1) (vp_cell (G.2.2.1 0) ((tgM M a1).2, .inl (va_cpy (giM M a0) (giM M a1) sp.toNatClampNeg dp.toNatClampNeg num.toNatClampNeg)))) (show (H.setIfInBounds (G.2.2.2.1 a1) _)[G.2.2.2.1 a1]? = some _ by simp [Array.getElem?_setIfInBounds, hlt]) (by simp) oq
  obtain ⟨t, a2, b2⟩ := kk _ (locs ++ (cs.stretch sp.toNatClampNeg num.toNatClampNeg).zipIdx.map fun q => ⟨G.2.2.2.1 a1, dp.toNatClampNeg + q.2⟩) ls ⟨hWn.1, hWn.2.1, ⟨hWn.2.2.1.1, hWn.2.2.1.2.1, fun q hq => by
      rcases List.mem_append.mp hq with h | h
      · exact hW.2.2.1.2.2 q h
      · obtain ⟨z, -, hz⟩ := List.mem_map.mp h
        rw [← hz]
        exact hW.2.1.2 (a1 - 1) _ he1⟩, hWn.2.2.2⟩ h _ hheap X'
  exact ⟨t, step t a2, b2⟩
end COPY
/-! constant texts and static arrays -/
section CONST
variable {G : GXM} {X : CxM} {cc : ByteArray} {own : String} {pc : Nat} {L : List (Nat × Value)} {st : List Value} {M : Mem} {k n : Nat}
/-- the texts: their numbers -/
def stM (a : Nat) : Bool := decide (6000 < a ∧ a ≤ 6003)
def btM (a : Nat) : Bool := decide (7000 < a ∧ a ≤ 7003)
def snM (a : Nat) : Nat := lenS.getD (a - 7001) 0
def sbM (a i : Nat) : Int32 := (bytS.getD (a - 7001) []).getD i 0
theorem hb_ldcS (C : CoM G X cc own) {ix a : Nat} {tx : String} (hd : decode cc pc = .ok (.ldc ix, 2)) (hZ : vk_R own ix tx (G.2.2.2.1 a) G.1) (kk : ZM G X (pc + 2) L (.ref a :: st) M k n) : ZM G X pc L st M k n := by
  obtain ⟨p, l, e, R, s, m, args, below, meth, c, nL, Q, d⟩ := X
  intro H locs ls hW h
  exact va_ldcS C.1 C.2.1 C.2.2.2.1 (hZ.warm C.2.2.2.2.2.1) hd (kk H locs ls hW h)
theorem zz_ldcS_6001 (C : CoM G X cc "HomeFreed$Rules") (hd : decode cc pc = .ok (.ldc 47, 2)) (kk : ZM G X (pc + 2) L (.ref 6001 :: st) M k n) : ZM G X pc L st M k n := by
  obtain ⟨p, l, e, R, s, m, args, below, meth, c, nL, Q, d⟩ := X
  exact hb_ldcS C hd C.2.2.2.2.2.2.1.2.2.2.2.1 kk
theorem zz_ldcS_6002 (C : CoM G X cc "HomeFreed$Rules") (hd : decode cc pc = .ok (.ldc 59, 2)) (kk : ZM G X (pc + 2) L (.ref 6002 :: st) M k n) : ZM G X pc L st M k n := by
  obtain ⟨p, l, e, R, s, m, args, below, meth, c, nL, Q, d⟩ := X
  exact hb_ldcS C hd C.2.2.2.2.2.2.1.2.2.2.2.2.1 kk
theorem zz_ldcS_6003 (C : CoM G X cc "HomeFreed$Script") (hd : decode cc pc = .ok (.ldc 58, 2)) (kk : ZM G X (pc + 2) L (.ref 6003 :: st) M k n) : ZM G X pc L st M k n := by
  obtain ⟨p, l, e, R, s, m, args, below, meth, c, nL, Q, d⟩ := X
  exact hb_ldcS C hd C.2.2.2.2.2.2.1.2.2.2.2.2.2.1 kk
/-- a static field of a nest mate -/
theorem hb_getsN (C : CoM G X cc own) {ix a : Nat} {Cn nm ds host : String} (hd : decode cc pc = .ok (.getstatic ix, 3)) (hl : Cond.fieldLinkNest own ix Cn nm ds host ∈ lw_tbl) (hZ : va_Z Cn nm ds (.ref (G.2.2.2.1 a)) (fun q => szM G ≤ q) G.1 G.1.heap) (kk : ZM G X (pc + 3) L (.ref a :: st) M k n) : ZM G X pc L st M k n := by
  obtain ⟨p, l, e, R, s, m, args, below, meth, c, nL, Q, d⟩ := X
  intro H locs ls hW h
  have hlk : (Cond.fieldLinkNest own ix Cn nm ds host).before args s = true := by
    obtain ⟨a0, h0⟩ := C.2.2.2.2.2.2.1.1
    exact va_Nw.use rfl (va_Nw.warmF C.2.2.2.2.2.1 (va_Nw.of rfl (h0 _ hl)))
  obtain ⟨cf, kf, fi, f, b, cell, h1, h2, h3, h4, h5, h6, h7, h8⟩ := va_Z.moved C.2.2.2.2.2.1.alike hZ
  exact va_WgetsN C.1 C.2.1 C.2.2.2.1 hlk h1 h2 h3 h4 (by rw [hW.2.2.1.2.1 b (Array.getElem?_eq_some_iff.mp h5).1 h8]; exact h5) (fun e => by rw [e] at h6; cases h6) h7 rfl hd (kk H locs ls hW h)
/-- whether texts are kept short -/
theorem zz_gets_CS (C : CoM G X cc "java/lang/String") (hd : decode cc pc = .ok (.getstatic 38, 3)) (hl : Cond.fieldLink "java/lang/String" 38 "java/lang/String" "COMPACT_STRINGS" "Z" ∈ lw_tbl) (kk : ZM G X (pc + 3) L (.int 1 :: st) M k n) : ZM G X pc L st M k n := by
  obtain ⟨p, l, e, R, s, m, args, below, meth, c, nL, Q, d⟩ := X
  intro H locs ls hW h
  have hG := C.2.2.2.2.2.2.1
  obtain ⟨cf, kf, fi, f, b, cell, h1, h2, h3, h4, h5, h6, h7, h8⟩ := va_Z.moved C.2.2.2.2.2.1.alike hG.2.2.2.2.2.2.2.2.2.2.2.2
  exact W.gets C.1 C.2.1 C.2.2.2.1 (wdM hG C.2.2.2.2.2.1 hl rfl) h1 h2 h3 h4 (by rw [hW.2.2.1.2.1 b (Array.getElem?_eq_some_iff.mp h5).1 h8]; exact h5) (fun e => by rw [e] at h6; cases h6) h7 rfl hd (kk H locs ls hW h)
theorem stM_ix {a : Nat} (h : stM a = true) : ∃ i, i < 3 ∧ a = 6001 + i := by
  have h := of_decide_eq_true h
  exact ⟨a - 6001, by omega, by omega⟩
theorem btM_ix {a : Nat} (h : btM a = true) : ∃ i, i < 3 ∧ a = 7001 + i := by
  have h := of_decide_eq_true h
  exact ⟨a - 7001, by omega, by omega⟩
theorem hb_strf {p : Program} {l : Launch} {e : Env} {R : Room} {s : State} {m : MethodId} {args : Array Value} {below : List Frame} {meth : Method} {c : Code} {Q : State → Prop} {H : Heap} {locs : List Loc} {ls : Array Slot} {rest : List Value} {ix b : Nat} {nm ds : String} {v : Value}
    (hexec : p.tables.exec = Jvm.exec) (hb : c.code = cc) (hown : s.vm.findClass own = some m.cls) (hG : GokM G) (hWm : G.1.WarmedH s.vm) (hW : WbM G M H locs) (hF : va_OF "java/lang/String" nm ds v b (fun q => szM G ≤ q) G.1 G.1.heap) (hl : Cond.fieldLink own ix "java/lang/String" nm ds ∈ lw_tbl) (hd : decode cc pc = .ok (.getfield ix, 3))
    (kk : W p l e R s m args below meth c H locs k n Q (F0 m (pc + 3) ls (v :: rest))) : W p l e R s m args below meth c H locs k n Q (F0 m pc ls (.ref b :: rest)) := by
  obtain ⟨cf, kf, fi, f, cell, h1, h2, h3, h4, h5, h6⟩ := va_OF.moved hWm.alike hF
  exact W.getf hexec hb hown (wdM hG hWm hl good_fl) h1 h2 (by rw [hW.2.2.1.2.1 b (Array.getElem?_eq_some_iff.mp h3).1 h6]; exact h3) h4 (v := v) h5 rfl rfl hd kk
theorem zz_strC (C : CoM G X cc "java/lang/String") {a : Nat} (hd : decode cc pc = .ok (.getfield 15, 3)) (hl : Cond.fieldLink "java/lang/String" 15 "java/lang/String" "coder" "B" ∈ lw_tbl) (ha : stM a = true) (kk : ZM G X (pc + 3) L (.int 0 :: st) M k n) : ZM G X pc L (.ref a :: st) M k n := by
  obtain ⟨p, l, e, R, s, m, args, below, meth, c, nL, Q, d⟩ := X
  intro H locs ls hW h
  have hG := C.2.2.2.2.2.2.1
  obtain ⟨i, hi, rfl⟩ := stM_ix ha
  exact hb_strf C.1 C.2.1 C.2.2.2.1 hG C.2.2.2.2.2.1 hW (hG.2.2.2.1.1 i hi).2.1 hl hd (kk H locs ls hW h)
theorem zz_strV (C : CoM G X cc "java/lang/String") {a : Nat} (hd : decode cc pc = .ok (.getfield 9, 3)) (hl : Cond.fieldLink "java/lang/String" 9 "java/lang/String" "value" "[B" ∈ lw_tbl) (ha : stM a = true) (kk : ZM G X (pc + 3) L (.ref (a + 1000) :: st) M k n) : ZM G X pc L (.ref a :: st) M k n := by
  obtain ⟨p, l, e, R, s, m, args, below, meth, c, nL, Q, d⟩ := X
  intro H locs ls hW h
  have hG := C.2.2.2.2.2.2.1
  obtain ⟨i, hi, rfl⟩ := stM_ix ha
  have e9 : 6001 + i + 1000 = 7001 + i := by omega
  rw [e9] at kk
  exact hb_strf C.1 C.2.1 C.2.2.2.1 hG C.2.2.2.2.2.1 hW (hG.2.2.2.1.1 i hi).2.2.1 hl hd (kk H locs ls hW h)
theorem hb_bt {H : Heap} {locs : List Loc} {s : State} {a : Nat} (hG : GokM G) (hS : va_S (fun q => szM G ≤ q) G.1.heap H locs) (hWm : G.1.WarmedH s.vm) (ha : btM a = true) : ∃ cs : Cell, H[G.2.2.2.1 a]? = some cs ∧ s.isArrayOf cs .byte ∧ cs.vm ≠ .unknown ∧ snM a ≤ cs.slots.size ∧ cs.slots.size.toInt32 = Int32.ofNat (snM a) ∧ ∀ j : Nat, j < snM a → cs.slots[j]? = some (.int (sbM a j)) := by
  obtain ⟨i, hi, rfl⟩ := btM_ix ha
  obtain ⟨cs, q1, q2, q3, q4, q5, q6, q7⟩ := va_T.moved hWm.alike (hG.2.2.2.1.1 i hi).2.2.2
  have e1 : 7001 + i - 7001 = i := by omega
  refine ⟨cs, by rw [hS.2.1 _ (Array.getElem?_eq_some_iff.mp q1).1 q7]; exact q1, q2, q3, ?_, ?_, fun j hj => ?_⟩
  · unfold snM; rw [e1]; exact q4
  · unfold snM; rw [e1]; exact q5
  · unfold snM at hj; unfold sbM; rw [e1] at hj ⊢; exact q6 j hj
theorem zz_btlen (C : CoM G X cc own) {a : Nat} (hd : decode cc pc = .ok (.arraylength, 1)) (ha : btM a = true) (kk : ZM G X (pc + 1) L (.int (Int32.ofNat (snM a)) :: st) M k n) : ZM G X pc L (.ref a :: st) M k n := by
  obtain ⟨p, l, e, R, s, m, args, below, meth, c, nL, Q, d⟩ := X
  intro H locs ls hW h
  obtain ⟨cs, q1, q2, q3, q4, q5, q6⟩ := hb_bt C.2.2.2.2.2.2.1 hW.2.2.1 C.2.2.2.2.2.1 ha
  exact W.alen C.1 C.2.1 q1 q2 q5 rfl rfl hd (kk H locs ls hW h)
theorem zz_btld (C : CoM G X cc own) {a : Nat} {i : Int32} (hd : decode cc pc = .ok (.baload, 1)) (ha : btM a = true) (hi : inM i (snM a) = true) (kk : ZM G X (pc + 1) L (.int (sbM a (Int32.toNatClampNeg i)) :: st) M k n) : ZM G X pc L (.int i :: .ref a :: st) M k n := by
  obtain ⟨p, l, e, R, s, m, args, below, meth, c, nL, Q, d⟩ := X
  intro H locs ls hW h
  obtain ⟨cs, q1, q2, q3, q4, q5, q6⟩ := hb_bt C.2.2.2.2.2.2.1 hW.2.2.1 C.2.2.2.2.2.1 ha
  have h3 := inM_in hi
  have hlt : i.toNatClampNeg < snM a := Nat.not_le.mp fun q => h3 (Or.inr q)
  exact W.bald (v := .int (sbM a i.toNatClampNeg)) C.1 C.2.1 q1 q2 q3 (fun q => h3 (q.imp id (fun z => Nat.le_trans q4 z))) (q6 _ hlt) rfl rfl hd (kk H locs ls hW h)
theorem zz_i2b (C : CoM G X cc own) {x : Int32} (hd : decode cc pc = .ok (.i2b, 1)) (kk : ZM G X (pc + 1) L (.int x.toInt8.toInt32 :: st) M k n) : ZM G X pc L (.int x :: st) M k n := by
  obtain ⟨p, l, e, R, s, m, args, below, meth, c, nL, Q, d⟩ := X
  intro H locs ls hW h
  exact lv_i2b C.1 C.2.1 hd rfl (kk H locs ls hW h)
/-- a method of a constant text is called -/
theorem zz_callJ0 (C : CoM G X cc own) {d1 np ix maxL a : Nat} {y : MethodName} {cy : ByteArray} {ret : Option FieldType} {stk As : List Value} {r : Option Value} {M1 : Mem} (hd : decode cc pc = .ok (.invokevirtual ix, 3)) (hl : Cond.methodLink own ix y ∈ lw_tbl) (hy : MyM y cy maxL ret np) (hv : MvM y) (ht : y.cls = "java/lang/String") (hM : ExM G X.2.1 d1 0 0 y cy maxL ret (.ref a :: As) M r M1) (hdp : d1 + 1 ≤ dpM X)
    (ho : stM a = true) (hs : stk = As.reverse ++ .ref a :: st) (hn : As.length = np) (hc : (st.map fun v => v.category).sum ≤ 8) (kk : ZM G X (pc + 3) L (r.toList ++ st) M1 0 0) : ZM G X pc L stk M 0 0 := by
  obtain ⟨p, l, e, R, s, m, args, below, meth, c, nL, Q, d⟩ := X
  intro H locs ls hW h
  have hG := C.2.2.2.2.2.2.1
  have hWm := C.2.2.2.2.2.1
  obtain ⟨i, hi, rfl⟩ := stM_ix ho
  obtain ⟨cell, g2, g4, g3, g5⟩ := va_O.moved hWm.alike (hG.2.2.2.1.1 i hi).1
  have g2 : H[G.2.2.2.1 (6001 + i)]? = some cell := by rw [hW.2.2.1.2.1 _ (Array.getElem?_eq_some_iff.mp g2).1 g5]; exact g2
  have hrun := va_runV (g := F0 m pc ls (stk.map (rvM G.2.2.2.1))) (As := As.map (rvM G.2.2.2.1)) (rest := st.map (rvM G.2.2.2.1)) (b := G.2.2.2.1 (6001 + i)) (C := y.cls) (Ts := []) (nL := nL) ⟨C.1, C.2.1, C.2.2.1, C.2.2.2.1, fun _ q => by cases q⟩ hM (n := np) (index := ix)
    ⟨hb_cb C hy hl hdp, wdM hG hWm hv.1 rfl, wdM hG hWm hv.2 rfl⟩ (H := H) ⟨PcM_blind, ⟨cell, g2, g4, by rw [ht]; exact g3⟩, fun U hU hUW => ⟨rfl, by rw [hU]; exact WbM_nil hW, State.WarmedH.trans hWm hUW⟩⟩ rfl (by simpa using hn) h.1
    (by subst hs; simp [rvM]) (lv_room (by rw [catM]; exact hc)) hd (e := e) (below := below) (meth := meth) (locs := locs) (cells := 0) (slots := 0) ⟨Nat.zero_le _, Nat.zero_le _⟩
  refine hb_call hrun hW (fun H1 locs1 hW1 => ?_)
  have h2 := kk H1 locs1 ls hW1 h
  have e2 : (r.toList ++ st).map (rvM G.2.2.2.1) = (r.map (rvM G.2.2.2.1)).toList ++ st.map (rvM G.2.2.2.1) := by cases r <;> rfl
  rw [e2] at h2
  exact h2
end CONST
