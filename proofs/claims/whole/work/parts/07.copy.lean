/-! System.arraycopy over the pure memory -/
def cpM (M : Mem) (a0 : Nat) (sp : Int32) (a1 : Nat) (dp n : Int32) : Bool := (ownM M a0 || extM a0) && ownM M a1 && decide ((tgM M a0).1 = 100 ∧ (tgM M a1).1 = 100 ∧ 0 ≤ sp.toInt ∧ 0 ≤ dp.toInt ∧ 0 ≤ n.toInt ∧ sp.toInt + n.toInt ≤ (tgM M a0).2 ∧ dp.toInt + n.toInt ≤ (tgM M a1).2)
theorem ceM_sa_o {ad : Nat → Nat} {cA : Nat → ClassId} {M : Mem} {a b : Nat} {g : Nat → Int32} (h : b ≠ a) : ceM ad cA (saM M a g) b = ceM ad cA M b := ceM_eq rfl (giM_sa_n h) rfl rfl
theorem exM_sa {G : GXM} {M : Mem} {a : Nat} {g : Nat → Int32} (h : exM G M) (ha : ownM M a = true) (hc : cnM M ≤ 5000) : exM G (saM M a g) := by
  intro y h1 h2
  have h3 := ownM_p ha
  rw [tgM_sa, giM_sa_n (by omega)]
  exact h y h1 h2
theorem tnM {z : Int32} (h : 0 ≤ z.toInt) : z.toInt = (z.toNatClampNeg : Int) := by
  show z.toInt = ((z.toInt.toNat : Nat) : Int)
  omega
theorem nlM {z : Int32} (h : 0 ≤ z.toInt) : ¬ z < 0 := by
  intro q
  have := Int32.lt_iff_toInt_lt.mp q
  simp at this
  omega
section COPY
variable {G : GXM} {X : CxM} {cc : ByteArray} {own : String} {pc : Nat} {L : List (Nat × Value)} {st : List Value} {M : Mem} {k n : Nat}
theorem zz_copy (C : CoM G X cc own) {ix a0 a1 : Nat} {sp dp num : Int32} (hd : decode cc pc = .ok (.invokestatic ix, 3)) (hl : Cond.methodLink own ix arraycopyName ∈ lw_tbl) (hw : Cond.native arraycopyName ∈ lw_tbl ∧ Cond.static arraycopyName ∈ lw_tbl ∧ Cond.initialized "java/lang/System" ∈ lw_tbl) (hr : cpM M a0 sp a1 dp num = true) (hdp : 1 ≤ dpM X) (hc : (st.map fun v => v.category).sum ≤ 8)
    (kk : ZM G X (pc + 3) L st (saM M a1 (va_cpy (giM M a0) (giM M a1) (Int32.toNatClampNeg sp) (Int32.toNatClampNeg dp) (Int32.toNatClampNeg num))) k n) : ZM G X pc L (.int num :: .int dp :: .ref a1 :: .int sp :: .ref a0 :: st) M k n := by
  obtain ⟨p, l, e, R, s, m, args, below, meth, c, nL, Q, d⟩ := X
  intro H locs ls hW h
  have hG := C.2.2.2.2.2.2.1
  have hWm := C.2.2.2.2.2.1
  have hK := kM hG hWm
  simp only [cpM, Bool.and_eq_true, Bool.or_eq_true, decide_eq_true_eq] at hr
  obtain ⟨⟨hcase, o1⟩, t0, t1, s1, s2, s3, s4, s5⟩ := hr
  have hd1 : 1 ≤ d := hdp
  have hsrc : ∃ cs : Cell, H[G.2.2.2.1 a0]? = some cs ∧ s.isArrayOf cs .int ∧ cs.vm ≠ .unknown ∧ cs.slots.size = (tgM M a0).2 ∧ ∀ j : Nat, j < (tgM M a0).2 → cs.slots[j]? = some (.int (giM M a0 j)) := by
    rcases hcase with h1 | h1
    · have he := wsM_at (G := G) h1
      rw [ceM_in t0] at he
      refine ⟨_, hW.1 (a0 - 1) _ he, (hK.2 0 _ rfl).1 _ (fun j => .int (giM M a0 j)), (fun q => by cases q), ?_, fun j hj => ?_⟩
      · show (arrV _ _ _).slots.size = _; rw [arrV_size]
      · show (arrV _ _ _).slots[_]? = _; rw [arrV_read _ _ hj]
    · obtain ⟨x1, x2⟩ := extM_p h1
      obtain ⟨-, hX⟩ := hW.2.2.2.1 a0 x1 x2
      have hlx : G.2.2.2.1 a0 < szM G := hG.2.2.2 a0 x1 x2
      obtain ⟨scr, q1, q2, q3, q4, q5⟩ := va_X.moved hWm.alike hX
      exact ⟨scr, by rw [hW.2.2.1.2.1 _ hlx (Nat.not_le.mpr hlx)]; exact q1, q2, q3, q4, q5⟩
  obtain ⟨cs, g1, ⟨g2, k0, hk0, cm0, hkk0⟩, g3, g4, g5⟩ := hsrc
  have he1 := wsM_at (G := G) o1
  rw [ceM_in t1] at he1
  have hc1 : H[G.2.2.2.1 a1]? = some (vp_cell (G.2.2.1 0) ((tgM M a1).2, .inl (giM M a1))) := hW.1 (a1 - 1) _ he1
  obtain ⟨-, k1, hk1, cm1, hkk1⟩ := (hK.2 0 _ rfl).1 (tgM M a1).2 (fun j => .int (giM M a1 j))
  have e1 := tnM s1
  have e2 := tnM s2
  have e3 := tnM s3
  intro T hT Y
  obtain ⟨vm', X', step⟩ := Y.arraycopy C.1 C.2.2.2.1 (wdM hG hWm hl rfl) (wdM hG hWm hw.1 rfl) (wdM hG hWm hw.2.1 rfl) (wdM hG hWm hw.2.2 rfl) (src := G.2.2.2.1 a0) (dst := G.2.2.2.1 a1) (cs := cs) (cd := vp_cell (G.2.2.1 0) ((tgM M a1).2, .inl (giM M a1))) (srcPos := sp) (destPos := dp) (n := num) (by rw [hT]; exact g1) (by rw [hT]; exact hc1)
    g2 (fun _ h => by cases h) g3 (fun h => by cases h) hk0 hk1 hkk0 hkk1 (by simp [refKind]) (nlM s1) (nlM s2) (nlM s3)
    (by rw [g4]; omega)
    (by show ¬ _ > ((arrV (G.2.2.1 0) (tgM M a1).2 (fun j => .int (giM M a1 j))).slots.size : Int); rw [arrV_size]; omega)
    (fun vm₁ _ i hi => by
      have e : cs.slots.getD (sp.toNatClampNeg + i) .null = .int (giM M a0 (sp.toNatClampNeg + i)) := by
        rw [Array.getD_eq_getD_getElem?, g5 _ (by omega)]
        rfl
      refine ⟨?_, ?_⟩
      · rw [e]
        rfl
      · rw [e]
        exact trivial)
    (g := F0 m pc ls (.int num :: .int dp :: .ref (G.2.2.2.1 a1) :: .int sp :: .ref (G.2.2.2.1 a0) :: st.map (rvM G.2.2.2.1))) rfl (by rw [C.2.2.1]; exact h.1) (rest := st.map (rvM G.2.2.2.1)) rfl (by rw [C.2.1]; exact hd) (Nat.le_trans hd1 C.2.2.2.2.2.2.2.1)
    (by
      have h8 := C.2.2.2.2.2.2.2.2
      have h9 : ((st.map (rvM G.2.2.2.1)).map fun v => v.category).sum ≤ 8 := by rw [catM]; exact hc
      have h10 : nativeFrameWords "java/lang/System" "arraycopy" 5 = 7 := by decide
      show 2 * 0 + _ + (nativeFrameWords "java/lang/System" "arraycopy" 5 + 11) ≤ R.locals
      rw [h10]
      omega)
  have e4 : copied cs (vp_cell (G.2.2.1 0) ((tgM M a1).2, .inl (giM M a1))) sp dp num = vp_cell (G.2.2.1 0) ((tgM M a1).2, .inl (va_cpy (giM M a0) (giM M a1) sp.toNatClampNeg dp.toNatClampNeg num.toNatClampNeg)) := va_copiedX (fun z => .int z) cs (G.2.2.1 0) (giM M a0) (giM M a1) g5 (by omega)
  rw [e4] at X' step
  have hlt : G.2.2.2.1 a1 < H.size := (Array.getElem?_eq_some_iff.mp hc1).1
  have hheap : ((T.setVm vm').setCell (G.2.2.2.1 a1) (vp_cell (G.2.2.1 0) ((tgM M a1).2, .inl (va_cpy (giM M a0) (giM M a1) sp.toNatClampNeg dp.toNatClampNeg num.toNatClampNeg)))).heap = H.setIfInBounds (G.2.2.2.1 a1) (vp_cell (G.2.2.1 0) ((tgM M a1).2, .inl (va_cpy (giM M a0) (giM M a1) sp.toNatClampNeg dp.toNatClampNeg num.toNatClampNeg))) := by rw [← hT]; rfl
  have oq : ∀ q : Nat, q ≠ G.2.2.2.1 a1 → (H.setIfInBounds (G.2.2.2.1 a1) (vp_cell (G.2.2.1 0) ((tgM M a1).2, .inl (va_cpy (giM M a0) (giM M a1) sp.toNatClampNeg dp.toNatClampNeg num.toNatClampNeg))))[q]? = H[q]? := fun q hq => by simp [Array.getElem?_setIfInBounds, Ne.symm hq]
  have hWn := WbM_put (k := 0) (M1 := saM M a1 (va_cpy (giM M a0) (giM M a1) sp.toNatClampNeg dp.toNatClampNeg num.toNatClampNeg)) (e := .inl (G.2.2.1 0, (tgM M a1).2, .inl (va_cpy (giM M a0) (giM M a1) sp.toNatClampNeg dp.toNatClampNeg num.toNatClampNeg))) hW o1 rfl (by rw [ceM_in (M := saM M a1 _) t1, giM_sa_s]; rfl) (fun b hb => ceM_sa_o hb) (exM_sa hW.2.2.2.1 o1 hW.2.2.2.2.1)
    (H1 := H.setIfInBounds (G.2.2.2.1 a1) (vp_cell (G.2.2.1 0) ((tgM M a1).2, .inl (va_cpy (giM M a0) (giM M a1) sp.toNatClampNeg dp.toNatClampNeg num.toNatClampNeg)))) (show (H.setIfInBounds (G.2.2.2.1 a1) _)[G.2.2.2.1 a1]? = some _ by simp [Array.getElem?_setIfInBounds, hlt]) (by simp) oq
  obtain ⟨t, a2, b2⟩ := kk _ (locs ++ (cs.stretch sp.toNatClampNeg num.toNatClampNeg).zipIdx.map fun q => ⟨G.2.2.2.1 a1, dp.toNatClampNeg + q.2⟩) ls ⟨hWn.1, hWn.2.1, ⟨hWn.2.2.1.1, hWn.2.2.1.2.1, fun q hq => by
      rcases List.mem_append.mp hq with h | h
      · exact hW.2.2.1.2.2 q h
      · obtain ⟨z, -, hz⟩ := List.mem_map.mp h
        rw [← hz]
        exact hW.2.1.2 (a1 - 1) _ he1⟩, hWn.2.2.2⟩ h _ hheap X'
  exact ⟨t, step t a2, b2⟩
end COPY
