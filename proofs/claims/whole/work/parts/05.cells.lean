/-! FIELDS AND ARRAYS OVER THE PURE MEMORY -/
def FlM (own : String) (ix t k N : Nat) (fin : Bool) : Prop := ∃ c : vw_C, clsM[t]? = some c ∧ c.2.2 = N ∧ k < N ∧ (c.2.1 k).2.2.2 = fin ∧ Cond.fieldLink own ix c.1 (c.2.1 k).2.1 (c.2.1 k).2.2.1 ∈ lw_tbl
theorem good_fl {a : String} {i : Nat} {b c d : String} : goodWord (.fieldLink a i b c d) = true := rfl
theorem obM_p {M : Mem} {a t n : Nat} (h : obM M a t n = true) : ownM M a = true ∧ tgM M a = (t, n) := by
  have h := h
  simp only [obM, Bool.and_eq_true, decide_eq_true_eq] at h
  exact h
theorem wrT_p {M : Mem} {a t : Nat} {i : Int32} (h : wrT t M a i = true) : ownM M a = true ∧ (tgM M a).1 = t ∧ vp_in i (tgM M a).2 := by
  have h := h
  simp only [wrT, Bool.and_eq_true, decide_eq_true_eq] at h
  exact ⟨h.1.1, h.1.2, inM_in h.2⟩
theorem wrI_p {M : Mem} {a : Nat} {i : Int32} (h : wrI M a i = true) : ownM M a = true ∧ (tgM M a).1 = 100 ∧ vp_in i (tgM M a).2 := wrT_p (t := 100) h
theorem rdI_p {M : Mem} {a : Nat} {i : Int32} (h : rdI M a i = true) : (ownM M a = true ∨ extM a = true) ∧ (tgM M a).1 = 100 ∧ vp_in i (tgM M a).2 := by
  have h := h
  simp only [rdI, Bool.and_eq_true, Bool.or_eq_true, decide_eq_true_eq] at h
  exact ⟨h.1.1, h.1.2, inM_in h.2⟩
theorem clM_lt {t : Nat} {c : vw_C} (h : clsM[t]? = some c) : t < 100 := by
  have := (List.getElem?_eq_some_iff.mp h).1
  have e : clsM.length = 12 := rfl
  omega
section CELLS
variable {G : GXM} {X : CxM} {cc : ByteArray} {own : String} {pc : Nat} {L : List (Nat × Value)} {st : List Value} {M : Mem} {k n : Nat}
theorem uwsM {s : State} {args : Array Value} {c : vw_C} {t : Nat} (hG : GokM G) (hW : G.1.WarmedH s.vm) (hc : clsM[t]? = some c) : ∀ w ∈ u_ws c.1 c.2.1 c.2.2, w.before args s = true := fun w hw => wdM hG hW ((clM_ok t c hc).2.2.2 w hw).1 ((clM_ok t c hc).2.2.2 w hw).2
/-- a field is read -/
theorem hb_get {p : Program} {l : Launch} {e : Env} {R : Room} {s : State} {m : MethodId} {args : Array Value} {below : List Frame} {meth : Method} {c : Code} {Q : State → Prop} {H : Heap} {locs : List Loc} {ls : Array Slot} {rest : List Value} {ix t k1 N a : Nat} {fin : Bool}
    (hexec : p.tables.exec = Jvm.exec) (hb : c.code = cc) (hown : s.vm.findClass own = some m.cls) (hG : GokM G) (hWm : G.1.WarmedH s.vm) (hF : FlM own ix t k1 N fin) (ho : obM M a t N = true) (hW : WbM G M H locs) (hd : decode cc pc = .ok (.getfield ix, 3))
    (kk : W p l e R s m args below meth c H locs k n Q (F0 m (pc + 3) ls (fvM G.2.2.2.1 M t a k1 :: rest))) : W p l e R s m args below meth c H locs k n Q (F0 m pc ls (.ref (G.2.2.2.1 a) :: rest)) := by
  obtain ⟨cl, hc, hN, hk, -, hl⟩ := hF
  obtain ⟨o1, o2⟩ := obM_p ho
  have hcl := clM_ok t cl hc
  have he := wsM_at (G := G) o1
  rw [ceM_ob o2 (clM_lt hc)] at he
  obtain ⟨C, T, N'⟩ := cl
  cases hN
  exact va_get hexec hb (uwsM hG hWm hc) (fun w h => h) hown (kM hG hWm) hW.1 (a - 1) he hc k1 hk (wdM hG hWm hl good_fl) (fun x hx => by rw [hcl.2.2.1 k1 hk] at hx; exact hx) (fsM_get hk) hd kk
theorem zz_geti (C : CoM G X cc own) {ix t k1 N a : Nat} {fin : Bool} (hd : decode cc pc = .ok (.getfield ix, 3)) (hF : FlM own ix t k1 N fin) (hf : ftM t k1 = 0) (ho : obM M a t N = true) (kk : ZM G X (pc + 3) L (.int (giM M a k1) :: st) M k n) : ZM G X pc L (.ref a :: st) M k n := by
  obtain ⟨p, l, e, R, s, m, args, below, meth, c, nL, Q, d⟩ := X
  intro H locs ls hW h
  refine hb_get C.1 C.2.1 C.2.2.2.1 C.2.2.2.2.2.2.1 C.2.2.2.2.2.1 hF ho hW hd ?_
  have e : fvM G.2.2.2.1 M t a k1 = .int (giM M a k1) := by unfold fvM; rw [hf]; rfl
  rw [e]
  exact kk H locs ls hW h
theorem zz_getl (C : CoM G X cc own) {ix t k1 N a : Nat} {fin : Bool} (hd : decode cc pc = .ok (.getfield ix, 3)) (hF : FlM own ix t k1 N fin) (hf : ftM t k1 = 1) (ho : obM M a t N = true) (kk : ZM G X (pc + 3) L (.long (glM M a k1) :: st) M k n) : ZM G X pc L (.ref a :: st) M k n := by
  obtain ⟨p, l, e, R, s, m, args, below, meth, c, nL, Q, d⟩ := X
  intro H locs ls hW h
  refine hb_get C.1 C.2.1 C.2.2.2.1 C.2.2.2.2.2.2.1 C.2.2.2.2.2.1 hF ho hW hd ?_
  have e : fvM G.2.2.2.1 M t a k1 = .long (glM M a k1) := by unfold fvM; rw [hf]; rfl
  rw [e]
  exact kk H locs ls hW h
theorem zz_getr (C : CoM G X cc own) {ix t k1 N a : Nat} {fin : Bool} (hd : decode cc pc = .ok (.getfield ix, 3)) (hF : FlM own ix t k1 N fin) (hf : ftM t k1 = 2) (ho : obM M a t N = true) (hz : grM M a k1 ≠ 0) (kk : ZM G X (pc + 3) L (.ref (grM M a k1) :: st) M k n) : ZM G X pc L (.ref a :: st) M k n := by
  obtain ⟨p, l, e, R, s, m, args, below, meth, c, nL, Q, d⟩ := X
  intro H locs ls hW h
  refine hb_get C.1 C.2.1 C.2.2.2.1 C.2.2.2.2.2.2.1 C.2.2.2.2.2.1 hF ho hW hd ?_
  have e : fvM G.2.2.2.1 M t a k1 = .ref (G.2.2.2.1 (grM M a k1)) := by unfold fvM; rw [hf]; exact rfM_p hz
  rw [e]
  exact kk H locs ls hW h
/-- a field is written -/
theorem hb_put {p : Program} {l : Launch} {e : Env} {R : Room} {s : State} {m : MethodId} {args : Array Value} {below : List Frame} {meth : Method} {c : Code} {Q : State → Prop} {H : Heap} {locs : List Loc} {ls : Array Slot} {rest : List Value} {ix t k1 N a : Nat} {fin : Bool} {M1 : Mem} {v : Value}
    (hexec : p.tables.exec = Jvm.exec) (hb : c.code = cc) (hown : s.vm.findClass own = some m.cls) (hG : GokM G) (hWm : G.1.WarmedH s.vm) (hF : FlM own ix t k1 N fin) (hfin : fin = false ∨ (meth.name = "<init>" ∧ ∃ q : vw_C, clsM[t]? = some q ∧ q.1 = own)) (ho : obM M a t N = true) (hW : WbM G M H locs) (hd : decode cc pc = .ok (.putfield ix, 3))
    (hn : narrow (yyM t k1) v = v) (hfit : fits (yyM t k1) v = true)
    (hv : fvM G.2.2.2.1 M1 t a k1 = v) (hvo : ∀ j, j ≠ k1 → fvM G.2.2.2.1 M1 t a j = fvM G.2.2.2.1 M t a j) (ht1 : tgM M1 = tgM M) (hc1 : cnM M1 = cnM M) (hro : ∀ b, b ≠ a → ceM G.2.2.2.1 G.2.2.1 M1 b = ceM G.2.2.2.1 G.2.2.1 M b) (hx : exM G M1)
    (kk : ∀ (H1 : Heap) (locs1 : List Loc), WbM G M1 H1 locs1 → W p l e R s m args below meth c H1 locs1 k n Q (F0 m (pc + 3) ls rest)) : W p l e R s m args below meth c H locs k n Q (F0 m pc ls (v :: .ref (G.2.2.2.1 a) :: rest)) := by
  obtain ⟨cl, hc, hN, hk, hfi, hl⟩ := hF
  obtain ⟨o1, o2⟩ := obM_p ho
  have hcl := clM_ok t cl hc
  have he := wsM_at (G := G) o1
  rw [ceM_ob o2 (clM_lt hc)] at he
  obtain ⟨C, T, N'⟩ := cl
  cases hN
  have hts := uwsM (args := args) hG hWm hc
  have hK := kM hG hWm
  have hap := va_apart (own := own) (args := args) hts (fun w h => h) (yyM t) hcl.2.1 hcl.1 hK hc
  obtain ⟨r, h1, cell, q1, q2, q3, q4⟩ := hW.1 (a - 1) _ he
  have hr : r = (C, T, N') := Option.some.inj (h1.symm.trans hc)
  subst hr
  obtain ⟨hS, hfc, kC, hkC, hkind⟩ := hK.1 t _ hc
  obtain ⟨cf, kf, fi, f, hi, hsl⟩ := hS k1 hk
  have hlay := hts _ (u_in_lay hk)
  have hlink : (Cond.fieldLink own ix C (T k1).2.1 (T k1).2.2.1).before args s = true := wdM hG hWm hl good_fl
  have hdc : (T k1).1 = C := hcl.2.2.1 k1 hk
  have hi2 : s.fieldFound? C (T k1).2.1 (T k1).2.2.1 = some (cf, kf, fi, f) := by rw [← hdc]; exact hi
  have hst := (u_facts hfc hkC (u_lays hts (fun w h => h) hk) hi).1
  have hlen : k1 < ((List.range N').map (fun k => fvM G.2.2.2.1 M t a k)).length := by simpa using hk
  have fin9 : ∀ H' : Heap, H'[G.2.2.2.1 a]? = some (cell.setSlot f.slot v) → H'.size = H.size → (∀ q, q ≠ G.2.2.2.1 a → H'[q]? = H[q]?) → W p l e R s m args below meth c H' (locs ++ [⟨G.2.2.2.1 a, f.slot⟩]) k n Q (F0 m (pc + 3) ls rest) := by
    intro H' e1 e2 e3
    refine kk H' _ (WbM_put hW o1 hc1 (ceM_ob (by rw [ht1]; exact o2) (clM_lt hc)) hro hx ?_ e2 e3)
    rw [← fsM_set hv hvo]
    rw [hsl] at e1
    exact ⟨_, hc, t_OB.to (V := updV (vp_V ((List.range N').map (fun k => fvM G.2.2.2.1 M t a k))) k1 v) ⟨_, e1, q2, q3, t_set q4 hap hk v⟩ (fun j _ => vp_updV_set hlen v j)⟩
  rcases hfin with h0 | ⟨hin, q, hq, hqo⟩
  · unfold u_lay at hlay
    rw [if_neg (by rw [hfi, h0]; decide)] at hlay
    have h6 := u_store hfc hkC hkind hlay hi (hcl.2.1 k1 hk) hn hfit
    exact W.putK hexec hb (f := f) ⟨hown, hlink, ⟨_, _, _, hi2⟩, hst⟩ (by rw [q2]; exact h6) q1 q3 (by rw [hsl]; exact k2_hasslot (q4 k1 hk)) rfl rfl hd fin9
  · have hq2 : q = (C, T, N') := Option.some.inj (hq.symm.trans hc)
    subst hq2
    have hcf : m.cls = cf ∧ (narrow f.type v = v ∧ s.fitsSlot (G.2.1.1 t) .none f.slot v = true) ∨ hasFlag f.accessFlags Acc.final = false := by
      by_cases hb : (T k1).2.2.2 = true
      · refine Or.inl ⟨?_, u_fits hfc hkC hkind (u_lays hts (fun w h => h) hk) hi (hcl.2.1 k1 hk) hn hfit⟩
        unfold u_lay at hlay
        rw [if_pos hb] at hlay
        obtain ⟨_, _, c', _, _, _, -, -, hf', -, -, -, hown2, -⟩ := Cond.laysFinal_spec hlay
        have e1 : c' = cf := by have := hi.symm.trans hf'; simp at this; exact this.1.symm
        rw [hdc] at hown2
        have hqo' : C = own := hqo
        rw [hqo'] at hown2
        rw [← e1]; exact Option.some.inj (hown.symm.trans hown2)
      · unfold u_lay at hlay
        rw [if_neg hb] at hlay
        exact Or.inr (u_store hfc hkC hkind hlay hi (hcl.2.1 k1 hk) hn hfit).1
    rcases hcf with ⟨h5, h6⟩ | h5
    · exact W.putFinK hexec hb hown hlink hi2 hst h5 hin (by rw [q2]; exact h6) q1 q3 (by rw [hsl]; exact k2_hasslot (q4 k1 hk)) rfl rfl hd fin9
    · have h6 := u_fits hfc hkC hkind (u_lays hts (fun w h => h) hk) hi (hcl.2.1 k1 hk) hn hfit
      exact W.putK hexec hb (f := f) ⟨hown, hlink, ⟨_, _, _, hi2⟩, hst⟩ (by rw [q2]; exact ⟨h5, h6.1, h6.2⟩) q1 q3 (by rw [hsl]; exact k2_hasslot (q4 k1 hk)) rfl rfl hd fin9
theorem ceM_si_o {ad : Nat → Nat} {cA : Nat → ClassId} {a i b : Nat} {x : Int32} (h : b ≠ a) : ceM ad cA (siM M a i x) b = ceM ad cA M b := ceM_eq rfl (giM_si_row h) rfl rfl
theorem ceM_sr_o {ad : Nat → Nat} {cA : Nat → ClassId} {a i b x : Nat} (h : b ≠ a) : ceM ad cA (srM M a i x) b = ceM ad cA M b := ceM_eq rfl rfl (up2_row h) rfl
theorem ceM_sl_o {ad : Nat → Nat} {cA : Nat → ClassId} {a i b : Nat} {x : Int64} (h : b ≠ a) : ceM ad cA (slM M a i x) b = ceM ad cA M b := ceM_eq rfl rfl rfl (up2_row h)
theorem exM_sr {a i x : Nat} (h : exM G M) : exM G (srM M a i x) := h
theorem exM_sl {a i : Nat} {x : Int64} (h : exM G M) : exM G (slM M a i x) := h
theorem zz_puti (C : CoM G X cc own) {ix t k1 N a : Nat} {x : Int32} (hd : decode cc pc = .ok (.putfield ix, 3)) (hF : FlM own ix t k1 N false) (hf : ftM t k1 = 0) (hn : narrow (yyM t k1) (.int x) = .int x) (hfit : fits (yyM t k1) (.int x) = true) (ho : obM M a t N = true) (kk : ZM G X (pc + 3) L st (siM M a k1 x) k n) : ZM G X pc L (.int x :: .ref a :: st) M k n := by
  obtain ⟨p, l, e, R, s, m, args, below, meth, c, nL, Q, d⟩ := X
  intro H locs ls hW h
  refine hb_put C.1 C.2.1 C.2.2.2.1 C.2.2.2.2.2.2.1 C.2.2.2.2.2.1 hF (Or.inl rfl) ho hW hd hn hfit (M1 := siM M a k1 x) ?_ ?_ rfl rfl (fun b hb => ceM_si_o hb) (exM_si hW.2.2.2.1 (obM_p ho).1 hW.2.2.2.2.1) (fun H1 locs1 hW1 => kk H1 locs1 ls hW1 h)
  · unfold fvM; rw [hf]; show Value.int _ = _; rw [giM_si_s]; rfl
  · intro j hj
    unfold fvM
    rw [giM_si_n (fun q => hj q.2), grM_si, glM_si]
theorem zz_putl (C : CoM G X cc own) {ix t k1 N a : Nat} {x : Int64} (hd : decode cc pc = .ok (.putfield ix, 3)) (hF : FlM own ix t k1 N false) (hf : ftM t k1 = 1) (hn : narrow (yyM t k1) (.long x) = .long x) (hfit : fits (yyM t k1) (.long x) = true) (ho : obM M a t N = true) (kk : ZM G X (pc + 3) L st (slM M a k1 x) k n) : ZM G X pc L (.long x :: .ref a :: st) M k n := by
  obtain ⟨p, l, e, R, s, m, args, below, meth, c, nL, Q, d⟩ := X
  intro H locs ls hW h
  refine hb_put C.1 C.2.1 C.2.2.2.1 C.2.2.2.2.2.2.1 C.2.2.2.2.2.1 hF (Or.inl rfl) ho hW hd hn hfit (M1 := slM M a k1 x) ?_ ?_ rfl rfl (fun b hb => ceM_sl_o hb) (exM_sl hW.2.2.2.1) (fun H1 locs1 hW1 => kk H1 locs1 ls hW1 h)
  · unfold fvM; rw [hf]; show Value.long _ = _; rw [glM_sl, if_pos ⟨rfl, rfl⟩]; rfl
  · intro j hj
    unfold fvM
    rw [glM_sl, if_neg (fun q => hj q.2), grM_sl, giM_sl]
/-- a reference is put: any field in a constructor of its own class, else one that isn't final -/
theorem zz_putr (C : CoM G X cc own) {ix t k1 N a x : Nat} {fin : Bool} (hd : decode cc pc = .ok (.putfield ix, 3)) (hF : FlM own ix t k1 N fin) (hfin : fin = false ∨ (X.2.2.2.2.2.2.2.2.1.name = "<init>" ∧ ∃ q : vw_C, clsM[t]? = some q ∧ q.1 = own)) (hf : ftM t k1 = 2) (hn : ∀ y : Nat, narrow (yyM t k1) (.ref y) = .ref y) (hfit : ∀ y : Nat, fits (yyM t k1) (.ref y) = true) (ho : obM M a t N = true) (hz : x ≠ 0) (kk : ZM G X (pc + 3) L st (srM M a k1 x) k n) : ZM G X pc L (.ref x :: .ref a :: st) M k n := by
  obtain ⟨p, l, e, R, s, m, args, below, meth, c, nL, Q, d⟩ := X
  intro H locs ls hW h
  refine hb_put C.1 C.2.1 C.2.2.2.1 C.2.2.2.2.2.2.1 C.2.2.2.2.2.1 hF hfin ho hW hd (hn _) (hfit _) (M1 := srM M a k1 x) ?_ ?_ rfl rfl (fun b hb => ceM_sr_o hb) (exM_sr hW.2.2.2.1) (fun H1 locs1 hW1 => kk H1 locs1 ls hW1 h)
  · unfold fvM; rw [hf]; show va_rf _ = _; rw [grM_sr, if_pos ⟨rfl, rfl⟩]; exact rfM_p hz
  · intro j hj
    unfold fvM
    rw [grM_sr, if_neg (fun q => hj q.2), giM_sr, glM_sr]
/-! arrays -/
theorem zz_iaload (C : CoM G X cc own) {a : Nat} {i : Int32} (hd : decode cc pc = .ok (.iaload, 1)) (hr : rdI M a i = true) (kk : ZM G X (pc + 1) L (.int (giM M a i.toNatClampNeg) :: st) M k n) : ZM G X pc L (.int i :: .ref a :: st) M k n := by
  obtain ⟨p, l, e, R, s, m, args, below, meth, c, nL, Q, d⟩ := X
  intro H locs ls hW h
  obtain ⟨hcase, h2, h3⟩ := rdI_p hr
  rcases hcase with h1 | h1
  · have he := wsM_at (G := G) h1
    rw [ceM_in h2] at he
    exact va_iald C.1 C.2.1 (kM C.2.2.2.2.2.2.1 C.2.2.2.2.2.1) hW.1 (a - 1) 0 he rfl h3 hd (kk H locs ls hW h)
  · obtain ⟨cs, q1, q2, q3, q4, q5, q6⟩ := exM_at hW.2.2.2.1 hW.2.2.1 C.2.2.2.2.2.1 h1
    have hlt : i.toNatClampNeg < (tgM M a).2 := Nat.not_le.mp fun q => h3 (Or.inr q)
    exact W.iald (v := .int (giM M a i.toNatClampNeg)) C.1 C.2.1 q1 q2 q3 (fun q => h3 (q.imp id (fun z => Nat.le_trans q4 z))) (q6 _ hlt) rfl rfl hd (kk H locs ls hW h)
theorem zz_baload (C : CoM G X cc own) {a : Nat} {i : Int32} (hd : decode cc pc = .ok (.baload, 1)) (hr : wrT 101 M a i = true) (kk : ZM G X (pc + 1) L (.int (giM M a i.toNatClampNeg) :: st) M k n) : ZM G X pc L (.int i :: .ref a :: st) M k n := by
  obtain ⟨p, l, e, R, s, m, args, below, meth, c, nL, Q, d⟩ := X
  intro H locs ls hW h
  obtain ⟨h1, h2, h3⟩ := wrT_p hr
  have he := wsM_at (G := G) h1
  rw [ceM_bo h2] at he
  exact va_zald C.1 C.2.1 (kM C.2.2.2.2.2.2.1 C.2.2.2.2.2.1) hW.1 (a - 1) 1 he rfl h3 hd (kk H locs ls hW h)
theorem zz_laload (C : CoM G X cc own) {a : Nat} {i : Int32} (hd : decode cc pc = .ok (.laload, 1)) (hr : wrT 102 M a i = true) (kk : ZM G X (pc + 1) L (.long (glM M a i.toNatClampNeg) :: st) M k n) : ZM G X pc L (.int i :: .ref a :: st) M k n := by
  obtain ⟨p, l, e, R, s, m, args, below, meth, c, nL, Q, d⟩ := X
  intro H locs ls hW h
  obtain ⟨h1, h2, h3⟩ := wrT_p hr
  have he := wsM_at (G := G) h1
  rw [ceM_lo h2] at he
  exact va_lald C.1 C.2.1 (kM C.2.2.2.2.2.2.1 C.2.2.2.2.2.1) hW.1 (a - 1) 2 he rfl h3 hd (kk H locs ls hW h)
/-- arrays of references: their kinds are 103, 104, 105 -/
theorem zz_aaload (C : CoM G X cc own) {a t : Nat} {i : Int32} {Cn : String} (hd : decode cc pc = .ok (.aaload, 1)) (ht : 103 ≤ t) (hT : ∀ cA, (tysM cA)[t - 100]? = some (cA (t - 100), .object Cn)) (hr : wrT t M a i = true) (hz : grM M a i.toNatClampNeg ≠ 0) (kk : ZM G X (pc + 1) L (.ref (grM M a i.toNatClampNeg) :: st) M k n) : ZM G X pc L (.int i :: .ref a :: st) M k n := by
  obtain ⟨p, l, e, R, s, m, args, below, meth, c, nL, Q, d⟩ := X
  intro H locs ls hW h
  obtain ⟨h1, h2, h3⟩ := wrT_p hr
  have he := wsM_at (G := G) h1
  rw [ceM_re h2 ht] at he
  refine va_aldq C.1 C.2.1 (kM C.2.2.2.2.2.2.1 C.2.2.2.2.2.1) hW.1 (a - 1) (t - 100) he (hT _) h3 hd ?_
  have e : va_rf (rfM G.2.2.2.1 (grM M a i.toNatClampNeg)) = .ref (G.2.2.2.1 (grM M a i.toNatClampNeg)) := rfM_p hz
  rw [e]
  exact kk H locs ls hW h
theorem zz_iastore (C : CoM G X cc own) {a : Nat} {i x : Int32} (hd : decode cc pc = .ok (.iastore, 1)) (hr : wrI M a i = true) (kk : ZM G X (pc + 1) L st (siM M a i.toNatClampNeg x) k n) : ZM G X pc L (.int x :: .int i :: .ref a :: st) M k n := by
  obtain ⟨p, l, e, R, s, m, args, below, meth, c, nL, Q, d⟩ := X
  intro H locs ls hW h
  obtain ⟨h1, h2, h3⟩ := wrI_p hr
  have he := wsM_at (G := G) h1
  rw [ceM_in h2] at he
  have hK := kM C.2.2.2.2.2.2.1 C.2.2.2.2.2.1
  refine W.iast C.1 C.2.1 (hW.1 (a - 1) _ he) ((hK.2 0 _ rfl).1 _ (fun j => .int (giM M a j))) (fun q => by cases q) (by show ¬ (i < 0 ∨ (arrV _ _ _).slots.size ≤ _); rw [arrV_size]; exact h3) rfl rfl hd fun H1 e1 z oq => ?_
  refine kk H1 _ ls (WbM_put hW h1 rfl (ceM_in (M := siM M a i.toNatClampNeg x) h2) (fun b hb => ceM_si_o hb) (exM_si hW.2.2.2.1 h1 hW.2.2.2.2.1) ?_ z oq) h
  show H1[_]? = some (vp_cell _ _)
  rw [e1, vp_cell_i, vp_cell_i, arrV_store]
  congr 2
  funext j
  rw [giM_si_own]
  unfold updV
  split <;> simp_all
theorem zz_bastore (C : CoM G X cc own) {a : Nat} {i x : Int32} (hd : decode cc pc = .ok (.bastore, 1)) (hr : wrT 101 M a i = true) (hx : x = 0 ∨ x = 1) (kk : ZM G X (pc + 1) L st (siM M a i.toNatClampNeg x) k n) : ZM G X pc L (.int x :: .int i :: .ref a :: st) M k n := by
  obtain ⟨p, l, e, R, s, m, args, below, meth, c, nL, Q, d⟩ := X
  intro H locs ls hW h
  obtain ⟨h1, h2, h3⟩ := wrT_p hr
  have he := wsM_at (G := G) h1
  rw [ceM_bo h2] at he
  have hK := kM C.2.2.2.2.2.2.1 C.2.2.2.2.2.1
  refine W.zast C.1 C.2.1 (hW.1 (a - 1) _ he) ((hK.2 1 _ rfl).1 _ (fun j => .int (giM M a j))) (fun q => by cases q) (by show ¬ (i < 0 ∨ (arrV _ _ _).slots.size ≤ _); rw [arrV_size]; exact h3) rfl rfl hd fun H1 e1 z oq => ?_
  refine kk H1 _ ls (WbM_put hW h1 rfl (ceM_bo (M := siM M a i.toNatClampNeg x) h2) (fun b hb => ceM_si_o hb) (exM_si hW.2.2.2.1 h1 hW.2.2.2.2.1) ?_ z oq) h
  show H1[_]? = some (vp_cell _ _)
  have hnr : narrow .boolean (.int x) = .int x := by rcases hx with rfl | rfl <;> rfl
  rw [e1, vp_cell_i, vp_cell_i, arrV_store, hnr]
  congr 2
  funext j
  rw [giM_si_own]
  unfold updV
  split <;> simp_all
theorem zz_lastore (C : CoM G X cc own) {a : Nat} {i : Int32} {x : Int64} (hd : decode cc pc = .ok (.lastore, 1)) (hr : wrT 102 M a i = true) (kk : ZM G X (pc + 1) L st (slM M a i.toNatClampNeg x) k n) : ZM G X pc L (.long x :: .int i :: .ref a :: st) M k n := by
  obtain ⟨p, l, e, R, s, m, args, below, meth, c, nL, Q, d⟩ := X
  intro H locs ls hW h
  obtain ⟨h1, h2, h3⟩ := wrT_p hr
  have he := wsM_at (G := G) h1
  rw [ceM_lo h2] at he
  have hK := kM C.2.2.2.2.2.2.1 C.2.2.2.2.2.1
  refine W.last C.1 C.2.1 (hW.1 (a - 1) _ he) ((hK.2 2 _ rfl).1 _ (fun j => .long (glM M a j))) (fun q => by cases q) (by show ¬ (i < 0 ∨ (arrV _ _ _).slots.size ≤ _); rw [arrV_size]; exact h3) rfl rfl hd fun H1 e1 z oq => ?_
  refine kk H1 _ ls (WbM_put hW h1 rfl (ceM_lo (M := slM M a i.toNatClampNeg x) h2) (fun b hb => ceM_sl_o hb) (exM_sl hW.2.2.2.1) ?_ z oq) h
  show H1[_]? = some (vp_cell _ _)
  rw [e1, vp_cell_l, vp_cell_l, arrV_store]
  congr 2
  funext j
  rw [glM_sl]
  unfold updV
  split <;> simp_all
/-- an array's length -/
theorem zz_alenI (C : CoM G X cc own) {a : Nat} (hd : decode cc pc = .ok (.arraylength, 1)) (hr : lnI M a = true) (kk : ZM G X (pc + 1) L (.int (Int32.ofNat (tgM M a).2) :: st) M k n) : ZM G X pc L (.ref a :: st) M k n := by
  obtain ⟨p, l, e, R, s, m, args, below, meth, c, nL, Q, d⟩ := X
  intro H locs ls hW h
  simp only [lnI, Bool.and_eq_true, Bool.or_eq_true, decide_eq_true_eq] at hr
  obtain ⟨hcase, h2⟩ := hr
  rcases hcase with h1 | h1
  · have he := wsM_at (G := G) h1
    rw [ceM_in h2] at he
    exact va_alen C.1 C.2.1 (kM C.2.2.2.2.2.2.1 C.2.2.2.2.2.1) hW.1 (a - 1) 0 he rfl rfl hd (kk H locs ls hW h)
  · obtain ⟨cs, q1, q2, q3, q4, q5, q6⟩ := exM_at hW.2.2.2.1 hW.2.2.1 C.2.2.2.2.2.1 h1
    exact W.alen C.1 C.2.1 q1 q2 q5 rfl rfl hd (kk H locs ls hW h)
theorem zz_alenR (C : CoM G X cc own) {a t : Nat} {Cn : String} (hd : decode cc pc = .ok (.arraylength, 1)) (ht : 103 ≤ t) (hT : ∀ cA, (tysM cA)[t - 100]? = some (cA (t - 100), .object Cn)) (hr : lnT t M a = true) (kk : ZM G X (pc + 1) L (.int (Int32.ofNat (tgM M a).2) :: st) M k n) : ZM G X pc L (.ref a :: st) M k n := by
  obtain ⟨p, l, e, R, s, m, args, below, meth, c, nL, Q, d⟩ := X
  intro H locs ls hW h
  simp only [lnT, Bool.and_eq_true, decide_eq_true_eq] at hr
  obtain ⟨h1, h2⟩ := hr
  have he := wsM_at (G := G) h1
  rw [ceM_re h2 ht] at he
  exact va_alen C.1 C.2.1 (kM C.2.2.2.2.2.2.1 C.2.2.2.2.2.1) hW.1 (a - 1) (t - 100) he (hT _) rfl hd (kk H locs ls hW h)
end CELLS
