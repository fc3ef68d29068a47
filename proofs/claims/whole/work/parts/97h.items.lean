/-! READING: the items of a clause -/
abbrev ItR : Type := (Nat × (Nat → Nat)) ⊕ (Nat ⊕ Nat)
def itL (i : Nat) (lo hi : Nat → Nat) (l : List Nat) : Nat → Nat → Nat → (Nat → Nat) → ItR
  | 0, a, _, _ => .inr (.inl (skp l a))
  | n + 1, a, m, f => match (l[skp l a]?).bind (tix i) with
    | none => .inl (skp l a, f)
    | some j => if m.testBit j then .inr (.inl (skp l a)) else match nmF l (skp l a + 1) (lo j) (hi j) with
      | .inl (x, p) => itL i lo hi l n p (m ||| 2 ^ j) (ud f j x)
      | .inr e => .inr (.inr e)
def pcN (m : Nat) : Nat := m % 2 + m / 2 % 2 + m / 4 % 2 + m / 8 % 2 + m / 16 % 2
theorem bt_h : ∀ m, m < 32 → ∀ j, j < 5 → ((nI m >>> (nI j &&& nI 31)) &&& nI 1) = nI (if m.testBit j then 1 else 0) ∧ (nI m ||| (nI 1 <<< (nI j &&& nI 31))) = nI (m ||| 2 ^ j) ∧ (m ||| 2 ^ j) < 32 ∧ (m.testBit j = false → pcN (m ||| 2 ^ j) = pcN m + 1) ∧ (pcN m = 5 → m.testBit j = true) := by decide +kernel
theorem bt_1 : ∀ m, m < 2 → (m ||| 2 ^ 0) < 2 ∧ (pcN m = 1 → m.testBit 0 = true) := by decide
theorem itL_s (i : Nat) (lo hi : Nat → Nat) (l : List Nat) (n a m : Nat) (f : Nat → Nat) : itL i lo hi l (n + 1) a m f = match (l[skp l a]?).bind (tix i) with
    | none => .inl (skp l a, f)
    | some j => if m.testBit j then .inr (.inl (skp l a)) else match nmF l (skp l a + 1) (lo j) (hi j) with
      | .inl (x, p) => itL i lo hi l n p (m ||| 2 ^ j) (ud f j x)
      | .inr e => .inr (.inr e) := by rw [itL]
section IT
variable {M M1 M2 N : Mem} {l : List Nat} {a : Nat} {w : Int32}
theorem old_tg (A : SHP M) {x : Nat} (h1 : 5000 < x) (h2 : x ≤ 5005) : tgM M x = (100, (oaM x).length) := (A.2.2.2 x h1 h2).1
theorem old_ln (A : SHP M) {x : Nat} (h1 : 5000 < x) (h2 : x ≤ 5005) : lnI M x = true := by
  unfold lnI
  rw [old_tg A h1 h2]
  have e : extM x = true := decide_eq_true (by omega)
  rw [e, Bool.or_true]
  rfl
theorem old_rd (A : SHP M) {x j : Nat} (h1 : 5000 < x) (h2 : x ≤ 5005) (hj : j < (oaM x).length) (hl : (oaM x).length < 100) : rdI M x (nI j) = true := by
  unfold rdI
  rw [old_tg A h1 h2]
  have e : extM x = true := decide_eq_true (by omega)
  have e2 := inM_n hj (by omega)
  show ((_ || extM x) && _ && inM (nI j) (oaM x).length) = true
  rw [e, Bool.or_true, e2]
  rfl
theorem old_gi (A : SHP M) {x j : Nat} (h1 : 5000 < x) (h2 : x ≤ 5005) (hj : j < (oaM x).length) : giM M x j = (oaM x).getD j 0 := (A.2.2.2 x h1 h2).2 j hj
/-- what reading items changes -/
def FI (tg o many : Nat) (M M' : Mem) : Prop := M'.2 = M.2 ∧ (∀ x, x ≠ 4 → x ≠ tg → giM M' x = giM M x) ∧ ∀ k, k < o ∨ o + many ≤ k → giM M' tg k = giM M tg k
theorem FI_refl (tg o many : Nat) (M : Mem) : FI tg o many M M := ⟨rfl, fun _ _ _ => rfl, fun _ _ => rfl⟩
theorem FI_tr {tg o many : Nat} (h : FI tg o many M M1) (g : FI tg o many M1 M2) : FI tg o many M M2 := ⟨g.1.trans h.1, fun x h1 h2 => (g.2.1 x h1 h2).trans (h.2.1 x h1 h2), fun k hk => (g.2.2 k hk).trans (h.2.2 k hk)⟩
theorem FI_F4 {tg o many : Nat} (h : tg ≠ 4) (F : Fr M M1 4 4) : FI tg o many M M1 := ⟨F.1, fun x h1 _ => F.2 x (by omega), fun k _ => by rw [F.2 tg (by omega)]⟩
theorem FI_si {tg o many j : Nat} {z : Int32} (h1 : o ≤ j) (h2 : j < o + many) : FI tg o many M (siM M tg j z) := ⟨rfl, fun x _ h => giM_un h, fun k hk => by rw [giM_ud, ud_n _ _ (by omega)]⟩
theorem SHP_FI {tg o many : Nat} (A : SHP M) (h : tg ≤ 5000) (F : FI tg o many M M1) : SHP M1 := SHP_2 A F.1 (fun x h1 _ => F.2.1 x (by omega) (by omega))
def outI : (Mem ⊕ (Mem ⊕ Mem)) → Mem := Sum.elim id (Sum.elim id id)
theorem ri6 {K : Nat → Nat → Nat → Nat → Nat → Int32 → Int32 → Int32 → Mem → Option (Mem ⊕ (Mem ⊕ Mem))} {tx aL aH tg c many : Nat} {v5 v6 v7 z : Int32} (A : SHP M) (A1 : SHP M1) (hst : stM tx = true) (hln : fJ_length tx M = some (nI many, M)) (hv7 : ¬ nI many < v7) (w0 : fR_isWrong 4 M = some (nI 0, M)) (k1 : fR_peek 4 M = some (nI c, M1)) (hc : c < 256) (hix : fJ_indexOf tx (nI c) M1 = some (z, M1)) : BU_readItems_6 K 4 tx aL aH tg v5 v6 v7 M = BU_readItems_45 K 4 tx aL aH tg v5 v6 v7 z M1 := by
  have hch := chr_ok (c := c) (by omega)
  have hn : ¬ nI c = -1 := of_eq_false (n_eqm (by omega))
  unfold BU_readItems_6
  rw [hst, gd1n, hln, bs1n, if_neg hv7, as_o4 A, gd1n, w0, bs1n, if_pos (show ((nI 0, M) : Int32 × Mem).1 = 0 from rfl), as_o4 A, gd1n, k1, bs1n, if_neg hn, gd1n, hch, hix, bs1n]
theorem ri6m {K : Nat → Nat → Nat → Nat → Nat → Int32 → Int32 → Int32 → Mem → Option (Mem ⊕ (Mem ⊕ Mem))} {tx aL aH tg many : Nat} {v5 v6 v7 : Int32} (A : SHP M) (hst : stM tx = true) (hln : fJ_length tx M = some (nI many, M)) (hv7 : ¬ nI many < v7) (w0 : fR_isWrong 4 M = some (nI 0, M)) (k1 : fR_peek 4 M = some (mI, M1)) : BU_readItems_6 K 4 tx aL aH tg v5 v6 v7 M = BU_readItems_45 K 4 tx aL aH tg v5 v6 v7 mI M1 := by
  unfold BU_readItems_6
  rw [hst, gd1n, hln, bs1n, if_neg hv7, as_o4 A, gd1n, w0, bs1n, if_pos (show ((nI 0, M) : Int32 × Mem).1 = 0 from rfl), as_o4 A, gd1n, k1, bs1n, if_pos (show mI = -1 from rfl)]
  rfl
theorem riw {K : Nat → Nat → Nat → Nat → Nat → Int32 → Int32 → Int32 → Mem → Option (Mem ⊕ (Mem ⊕ Mem))} {tx aL aH tg many : Nat} {v5 v6 v7 : Int32} (A : SHP M) (hst : stM tx = true) (hln : fJ_length tx M = some (nI many, M)) (w1 : fR_isWrong 4 M = some (nI 1, M)) : BU_readItems_6 K 4 tx aL aH tg v5 v6 v7 M = some (.inr (.inr M)) := by
  unfold BU_readItems_6
  rw [hst, gd1n, hln, bs1n]
  by_cases h : nI many < v7
  · rw [if_pos h]
  · rw [if_neg h, as_o4 A, gd1n, w1, bs1n, if_neg (show ¬ ((nI 1, M) : Int32 × Mem).1 = 0 from (show ¬ nI 1 = 0 by decide))]
theorem itc_loop {i tx aL aH tg o nT many : Nat} {lo hi : Nat → Nat} (lk : LOK l) (hst : stM tx = true) (hlen : ∀ M, fJ_length tx M = some (nI many, M)) (hixo : ∀ M c, c < 256 → fJ_indexOf tx (nI c) M = some (oN (tix i c), M)) (hmany : snM (7001 + i) = many) (hm15 : (i = 1 ∧ many = 1) ∨ many = 5) (hL1 : 5000 < aL) (hL2 : aL ≤ 5005) (hL : (oaM aL).length = many) (hLv : ∀ j, j < many → (oaM aL).getD j 0 = nI (lo j)) (hH1 : 5000 < aH) (hH2 : aH ≤ 5005) (hH : (oaM aH).length = many) (hHv : ∀ j, j < many → (oaM aH).getD j 0 = nI (hi j)) (hb : ∀ j, j < many → lo j < 1000 ∧ hi j < 1000) (htg : 4 < tg) (htg2 : tg ≤ 1000) (ho : o + many ≤ nT) (hnT : nT < 100) : ∀ n f M a m fv, pcN m + n = many → m < 2 ^ many → n + 1 < f → SHP M → arS M tg nT → RdC M l a mI → a ≤ l.length → (∀ j, j < many → giM M tg (o + j) = nI (fv j)) → ∃ r, LU_readItems_6 f 4 tx aL aH tg (nI o) (nI m) (nI (many - n)) M = some r ∧ FI tg o many M (outI r) ∧ ((∃ p f', itL i lo hi l (n + 1) a m fv = .inl (p, f') ∧ RdC (outI r) l p mI ∧ p ≤ l.length ∧ ∀ j, j < many → giM (outI r) tg (o + j) = nI (f' j)) ∨ (∃ p p', itL i lo hi l (n + 1) a m fv = .inr (.inl p) ∧ p ≤ 240 ∧ RdC (outI r) l p' (nI p)) ∨ ∃ e p', itL i lo hi l (n + 1) a m fv = .inr (.inr e) ∧ e ≤ 240 ∧ RdC (outI r) l p' (nI e)) := by
  have ll := lk.1
  have hmb : many ≤ 5 := by omega
  -- one turn of the loop
  have turn : ∀ (n f : Nat) (M : Mem) (a m : Nat) (fv : Nat → Nat), pcN m + n = many → m < 2 ^ many → SHP M → arS M tg nT → RdC M l a mI → a ≤ l.length → (∀ j, j < many → giM M tg (o + j) = nI (fv j)) → (∀ (K : Nat → Nat → Nat → Nat → Nat → Int32 → Int32 → Int32 → Mem → Option (Mem ⊕ (Mem ⊕ Mem))), (∃ r, BU_readItems_6 K 4 tx aL aH tg (nI o) (nI m) (nI (many - n)) M = some r ∧ FI tg o many M (outI r) ∧ ((∃ p f', itL i lo hi l (n + 1) a m fv = .inl (p, f') ∧ RdC (outI r) l p mI ∧ p ≤ l.length ∧ ∀ j, j < many → giM (outI r) tg (o + j) = nI (f' j)) ∨ (∃ p p', itL i lo hi l (n + 1) a m fv = .inr (.inl p) ∧ p ≤ 240 ∧ RdC (outI r) l p' (nI p)) ∨ ∃ e p', itL i lo hi l (n + 1) a m fv = .inr (.inr e) ∧ e ≤ 240 ∧ RdC (outI r) l p' (nI e))) ∨ (0 < n ∧ ∃ v M2 j x p, j < many ∧ m.testBit j = false ∧ itL i lo hi l (n + 1) a m fv = itL i lo hi l n p (m ||| 2 ^ j) (ud fv j x) ∧ BU_readItems_6 K 4 tx aL aH tg (nI o) (nI m) (nI (many - n)) M = K 4 tx aL aH tg (nI o) (nI (m ||| 2 ^ j)) (nI (many - n + 1)) M2 ∧ FI tg o many M M2 ∧ v = nI x ∧ RdC M2 l p mI ∧ p ≤ l.length ∧ ∀ j', j' < many → giM M2 tg (o + j') = nI (ud fv j x j')) ∨ (∃ M2 j e p, itL i lo hi l (n + 1) a m fv = .inr (.inr e) ∧ BU_readItems_6 K 4 tx aL aH tg (nI o) (nI m) (nI (many - n)) M = K 4 tx aL aH tg (nI o) (nI (m ||| 2 ^ j)) (nI (many - n + 1)) M2 ∧ FI tg o many M M2 ∧ RdC M2 l p (nI e) ∧ e ≤ 240)) := by
    intro n f M a m fv hpc hm A hT h ha hv K
    obtain ⟨M1, k1, F1, r1, i1, i2, i3⟩ := pek_ok lk A h ha
    have A1 := SHP_Fr A F1 (by omega)
    have w0 := wr0 A h
    have hln := hlen M
    have hv7 : ¬ nI many < nI (many - n) := of_eq_false (n_ltF (by omega) (by omega))
    have hm32 : m < 32 := by
      have : 2 ^ many ≤ 2 ^ 5 := Nat.pow_le_pow_right (by omega) hmb
      omega
    have f1 : FI tg o many M M1 := FI_F4 (by omega) F1
    have hT1 := arS_2 f1.1 hT
    have hv1 : ∀ j, j < many → giM M1 tg (o + j) = nI (fv j) := fun j hj => by rw [F1.2 tg (by omega)]; exact hv j hj
    rw [itL_s]
    generalize skp l a = b at k1 r1 i1 i2 i3
    have stop : BU_readItems_45 K 4 tx aL aH tg (nI o) (nI m) (nI (many - n)) mI M1 = some (.inr (.inl M1)) := by
      unfold BU_readItems_45
      rw [if_pos (show mI < 0 by decide)]
    rcases Nat.lt_or_ge b l.length with hbl | hbl
    · have hc := lk.2 _ (List.getElem_mem hbl)
      rw [chL_lt hbl] at k1
      rw [List.getElem?_eq_getElem hbl]
      generalize l[b] = c at k1 hc
      have hix := hixo M1 c (by omega)
      simp only [bs1n]
      cases htx : tix i c with
      | none =>
        rw [htx] at hix
        have hix : fJ_indexOf tx (nI c) M1 = some (mI, M1) := hix
        left
        refine ⟨.inr (.inl M1), ?_, f1, Or.inl ⟨b, fv, rfl, r1, i1, hv1⟩⟩
        rw [ri6 A A1 hst hln hv7 w0 k1 (by omega) hix, stop]
      | some j =>
        have hj : j < many := by
          have := lo_spec htx
          omega
        rw [htx] at hix
        have hix : fJ_indexOf tx (nI c) M1 = some (nI j, M1) := hix
        obtain ⟨b1, b2, b3, b4, b5⟩ := bt_h m hm32 j (by omega)
        have g1 := old_tg A1 hL1 hL2
        have g2 := old_tg A1 hH1 hH2
        rw [hL] at g1
        rw [hH] at g2
        have g3 := old_ln A1 hL1 hL2
        have g4 := old_ln A1 hH1 hH2
        have g5 := ar_tg hT1
        have g6 := ar_ln hT1
        have q1 : (Int32.ofNat (tgM M1 aL).2 ≤ nI j) = False := by rw [g1]; exact n_leF hj (by omega)
        have q2 : (Int32.ofNat (tgM M1 aH).2 ≤ nI j) = False := by rw [g2]; exact n_leF hj (by omega)
        have q3 : (nI (o + j) < Int32.ofNat (tgM M1 tg).2) = True := by rw [g5]; exact n_ltT (show o + j < nT by omega) (by omega)
        have q0 : (nI j < nI 0) = False := n_ltF (by omega) (by omega)
        cases hbit : m.testBit j with
        | true =>
          left
          rw [hbit, if_pos rfl] at b1
          have m1 := mark_ok A1 r1
          refine ⟨.inl (siM M1 4 2 (nI b)), ?_, FI_tr f1 (FI_F4 (by omega) F4), Or.inr (Or.inl ⟨b, b, by show (if m.testBit j = true then _ else _) = _; rw [if_pos hbit], by omega, RdC_2 r1 _⟩)⟩
          rw [ri6 A A1 hst hln hv7 w0 k1 (by omega) hix]
          generalize many - n = mn
          simp (disch := omega) only [BU_readItems_45, gd1n, bs1n, ↓reduceIte, l_0, l_1, l_31, n_eqF, n_add, n_cl, as_o4 A1, q0, q1, q2, q3, g3, g4, g6, b1, m1]
        | false =>
          rw [hbit, if_neg (by decide)] at b1
          have p1 := pass_ok lk A1 r1 hbl
          have r2 := RdC_1 r1 (b + 1)
          have A2 := SHP_4 (i := 1) (z := nI (b + 1)) A1
          have f2 : FI tg o many M (siM M1 4 1 (nI (b + 1))) := FI_tr f1 (FI_F4 (by omega) F4)
          have v2 : ∀ j, j < many → giM (siM M1 4 1 (nI (b + 1))) tg (o + j) = nI (fv j) := fun j hj => by rw [giM_un (by omega)]; exact hv1 j hj
          generalize siM M1 4 1 (nI (b + 1)) = M2 at p1 r2 A2 f2 v2
          have hT2 := arS_2 f2.1 hT
          have e1 := old_rd A2 hL1 hL2 (by omega) (by omega) (j := j)
          have e2 := old_rd A2 hH1 hH2 (by omega) (by omega) (j := j)
          have e3 := old_gi A2 hL1 hL2 (show j < _ by omega)
          have e4 := old_gi A2 hH1 hH2 (show j < _ by omega)
          rw [hLv j hj] at e3
          rw [hHv j hj] at e4
          obtain ⟨v, M3, k3, F3, hh⟩ := num_c (lo := lo j) (hi := hi j) lk A2 r2 (by omega) (hb j hj).1 (hb j hj).2
          have f3 : FI tg o many M M3 := FI_tr f2 (FI_F4 (by omega) F3)
          have hT3 := arS_2 f3.1 hT
          have w3 := ar_wr hT3 (show o + j < nT by omega)
          have v3 : ∀ j, j < many → giM M3 tg (o + j) = nI (fv j) := fun j hj => by rw [F3.2 tg (by omega)]; exact v2 j hj
          have f4 : FI tg o many M (siM M3 tg (o + j) v) := FI_tr f3 (FI_si (by omega) (by omega))
          have run : BU_readItems_6 K 4 tx aL aH tg (nI o) (nI m) (nI (many - n)) M = K 4 tx aL aH tg (nI o) (nI (m ||| 2 ^ j)) (nI (many - n + 1)) (siM M3 tg (o + j) v) := by
            have run5 : BU_readItems_45 K 4 tx aL aH tg (nI o) (nI m) (nI (many - n)) (nI j) M1 = K 4 tx aL aH tg (nI o) (nI (m ||| 2 ^ j)) (nI (many - n + 1)) (siM M3 tg (o + j) v) := by
              generalize many - n = mn
              generalize hm2 : m ||| 2 ^ j = m2 at b2
              simp (disch := omega) only [BU_readItems_45, gd1n, bs1n, ↓reduceIte, l_0, l_1, l_31, n_add, n_cl, as_o4 A1, as_o4 A2, q0, q1, q2, q3, g3, g4, g6, b1, b2, p1, e1, e2, e3, e4, k3, w3]
            rw [ri6 A A1 hst hln hv7 w0 k1 (by omega) hix, run5]
          right
          rcases hh with ⟨x, p, n1, n2, n3, n4⟩ | ⟨e, p, n1, n3, n4, n5⟩
          · left
            refine ⟨?_, v, siM M3 tg (o + j) v, j, x, p, hj, hbit, ?_, run, f4, n2, ⟨TPc_cg n3.1 (giM_un (by omega)) (giM_un (by omega)), by rw [giM_un (by omega)]; exact n3.2.1, by rw [giM_un (by omega)]; exact n3.2.2⟩, n4, fun j' hj' => ?_⟩
            · rcases Nat.eq_zero_or_pos n with rfl | hn
              · exfalso
                have : m.testBit j = true := by
                  rcases hm15 with ⟨-, e⟩ | e
                  · have hj0 : j = 0 := by omega
                    rw [hj0]
                    exact (bt_1 m (by rw [e] at hm; exact hm)).2 (by omega)
                  · exact b5 (by omega)
                rw [hbit] at this
                cases this
              · exact hn
            · show (if m.testBit j = true then _ else _) = _
              rw [if_neg (by rw [hbit]; decide), n1]
            · rw [giM_ud, ud_at, ud_at]
              by_cases ej : j' = j
              · rw [if_pos (by omega), if_pos ej, n2]
              · rw [if_neg (by omega), if_neg ej]
                exact v3 j' hj'
          · right
            refine ⟨siM M3 tg (o + j) v, j, e, p, ?_, run, f4, ⟨TPc_cg n3.1 (giM_un (by omega)) (giM_un (by omega)), by rw [giM_un (by omega)]; exact n3.2.1, by rw [giM_un (by omega)]; exact n3.2.2⟩, n5⟩
            show (if m.testBit j = true then _ else _) = _
            rw [if_neg (by rw [hbit]; decide), n1]
    · rw [chL_ge hbl] at k1
      rw [List.getElem?_eq_none hbl]
      left
      refine ⟨.inr (.inl M1), ?_, f1, Or.inl ⟨b, fv, rfl, r1, i1, hv1⟩⟩
      rw [ri6m A hst hln hv7 w0 k1, stop]
  intro n
  induction n with
  | zero =>
    intro f M a m fv hpc hm hf A hT h ha hv
    obtain ⟨g, rfl⟩ : ∃ g, f = g + 1 := ⟨f - 1, by omega⟩
    rcases turn 0 g M a m fv hpc hm A hT h ha hv (LU_readItems_6 g) with h | ⟨h, -⟩ | ⟨M2, j, e, p, e1, e2, F2, r2, he⟩
    · exact h
    · omega
    · obtain ⟨g, rfl⟩ : ∃ g', g = g' + 1 := ⟨g - 1, by omega⟩
      have A2 := SHP_FI A (by omega) F2
      have k : LU_readItems_6 (g + 1) 4 tx aL aH tg (nI o) (nI (m ||| 2 ^ j)) (nI (many - 0 + 1)) M2 = some (.inr (.inr M2)) := riw (K := LU_readItems_6 g) A2 hst (hlen M2) (wr1 A2 (by omega) r2)
      refine ⟨.inr (.inr M2), ?_, F2, Or.inr (Or.inr ⟨e, p, e1, he, r2⟩)⟩
      show BU_readItems_6 (LU_readItems_6 (g + 1)) 4 tx aL aH tg (nI o) (nI m) (nI (many - 0)) M = _
      rw [e2]
      exact k
  | succ n ih =>
    intro f M a m fv hpc hm hf A hT h ha hv
    obtain ⟨g, rfl⟩ : ∃ g, f = g + 1 := ⟨f - 1, by omega⟩
    rcases turn (n + 1) g M a m fv hpc hm A hT h ha hv (LU_readItems_6 g) with h | ⟨-, v, M2, j, x, p, hj, hbit, e1, e2, F2, -, r2, hp, hv2⟩ | ⟨M2, j, e, p, e1, e2, F2, r2, he⟩
    · exact h
    · have hbt := bt_h m (by
        have : 2 ^ many ≤ 2 ^ 5 := Nat.pow_le_pow_right (by omega) hmb
        omega) j (by omega)
      obtain ⟨r, k, F, hh⟩ := ih g M2 p (m ||| 2 ^ j) (ud fv j x) (by have := hbt.2.2.2.1 hbit; omega) (by
        rcases hm15 with ⟨-, e⟩ | e
        · have hj0 : j = 0 := by omega
          rw [e] at hm ⊢
          rw [hj0]
          exact (bt_1 m hm).1
        · rw [e]
          exact hbt.2.2.1) (by omega) (SHP_FI A (by omega) F2) (arS_2 F2.1 hT) r2 hp hv2
      rw [show many - n = many - (n + 1) + 1 by omega] at k
      refine ⟨r, ?_, FI_tr F2 F, by rw [e1]; exact hh⟩
      show BU_readItems_6 (LU_readItems_6 g) 4 tx aL aH tg (nI o) (nI m) (nI (many - (n + 1))) M = some r
      rw [e2]
      exact k
    · obtain ⟨g, rfl⟩ : ∃ g', g = g' + 1 := ⟨g - 1, by omega⟩
      have A2 := SHP_FI A (by omega) F2
      have k : LU_readItems_6 (g + 1) 4 tx aL aH tg (nI o) (nI (m ||| 2 ^ j)) (nI (many - (n + 1) + 1)) M2 = some (.inr (.inr M2)) := riw (K := LU_readItems_6 g) A2 hst (hlen M2) (wr1 A2 (by omega) r2)
      refine ⟨.inr (.inr M2), ?_, F2, Or.inr (Or.inr ⟨e, p, e1, he, r2⟩)⟩
      show BU_readItems_6 (LU_readItems_6 (g + 1)) 4 tx aL aH tg (nI o) (nI m) (nI (many - (n + 1))) M = _
      rw [e2]
      exact k
end IT
