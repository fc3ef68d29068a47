/-! WAYS: the class goes all ways -/
def MF (l : Nat) (M M' : Mem) : Prop := M'.2 = M.2 ∧ ∀ a, a ≠ 791 → (a < 795 + 26 * l ∨ 976 < a) → giM M' a = giM M a
section MW
variable {M M1 M2 : Mem} {ρ : Rul} {β n m l al w mo fw : Nat} {Y : HSt} {g k : Nat → GoT} {fl : List (Nat × Nat × Nat)}
theorem MF_refl (l : Nat) (M : Mem) : MF l M M := ⟨rfl, fun _ _ _ => rfl⟩
theorem MF_tr (h : MF l M M1) (h2 : MF l M1 M2) : MF l M M2 := ⟨h2.1.trans h.1, fun a h1 h3 => (h2.2 a h1 h3).trans (h.2 a h1 h3)⟩
theorem MF_w {l' : Nat} (h : MF l M M1) (hl : l' ≤ l) : MF l' M M1 := ⟨h.1, fun a h1 h3 => h.2 a h1 (by omega)⟩
theorem MF_Fr {lo hi : Nat} (F : Fr M M1 lo hi) (h1 : 795 + 26 * l ≤ lo) (h2 : hi ≤ 976) : MF l M M1 := ⟨F.1, fun a _ h => F.2 a (by omega)⟩
theorem MF_9 (F : Fr M M1 791 791) : MF l M M1 := ⟨F.1, fun a h1 _ => F.2 a (by omega)⟩
theorem SHP_MF (A : SHP M) (F : MF l M M1) : SHP M1 := SHP_2 A F.1 (fun a h1 h2 => F.2 a (by omega) (by omega))
theorem STc_MF {sc i : Nat} {t : StT} (e : STc M sc i t) (F : MF l M M1) (h : sc + 3 < 791) : STc M1 sc i t := by
  unfold STc
  rw [F.2 (sc + 1) (by omega) (by omega), F.2 (sc + 2) (by omega) (by omega), F.2 (sc + 3) (by omega) (by omega)]
  exact e
theorem cSd {self' : Mem → Option Mem} {t : StT} {c sc e e' i : Nat} {L : RSt → List (Nat × Nat × Nat)} (A : SHP M) (hl : l < 7) (he : (e = 813 ∧ e' = 817) ∨ (e = 817 ∧ e' = 813)) (C : CC M (795 + 26 * l) ρ β (wlg Y fl)) (V : OKS ρ β (wlg Y fl)) (G : GOK ρ (wlg Y fl) n g) (G2 : GOK ρ (wlg Y fl) m k) (cx : CX n g m k) (P : PG M (e + 26 * l) n 0 g) (P2 : PG M (e' + 26 * l) m 0 k) (ac : AcX M al w mo fw) (SS : SSh M sc) (hi : i < 24) (hn : n < 24) (hβ : β < 2000000000) (tk : TOK t) (t5 : t.1 < 5) (st : STc M sc i t) (rec : ∀ M2 x fl', stp ρ false t (Y, n, 0, g) = some x → SHP M2 → MF l M M2 → CC M2 (795 + 26 * l) ρ (β + 1) (wlg x.1 fl') → OKS ρ (β + 1) (wlg x.1 fl') → GOK ρ (wlg x.1 fl') x.2.1 x.2.2.2 → GOK ρ (wlg x.1 fl') m k → CX x.2.1 x.2.2.2 m k → x.2.1 ≤ n + 1 → PG M2 (e + 26 * l) x.2.1 0 x.2.2.2 → PG M2 (e' + 26 * l) m 0 k → AcX M2 al w mo fw → ∃ M3, self' M2 = some M3 ∧ MF l M2 M3 ∧ AcX M3 (al + sA (L x)) (w + sW (L x)) (fMo mo (L x)) (fFx fw (L x))) : (fG_doStep (e + 26 * l) (795 + 26 * l) sc (nI i) M = some (nI 0, M) ∧ ∃ M', fX_tally 791 (795 + 26 * l) (nI c) M = some M' ∧ MF l M M' ∧ AcX M' (al + sA (sdL ρ Y n g t c L)) (w + sW (sdL ρ Y n g t c L)) (fMo mo (sdL ρ Y n g t c L)) (fFx fw (sdL ρ Y n g t c L))) ∨ ∃ M2, fG_doStep (e + 26 * l) (795 + 26 * l) sc (nI i) M = some (nI 1, M2) ∧ SHP M2 ∧ ∃ M', self' M2 = some M' ∧ MF l M M' ∧ AcX M' (al + sA (sdL ρ Y n g t c L)) (w + sW (sdL ρ Y n g t c L)) (fMo mo (sdL ρ Y n g t c L)) (fFx fw (sdL ρ Y n g t c L)) := by
  have hR := C.2.2.1
  have PS : PSh M (e + 26 * l) := PS_mx A hl (by omega)
  rcases cStep (t := t) (h := 795 + 26 * l) (q := e + 26 * l) (by omega) (by omega) PS SS P C V G hβ hi hn (by omega) (fun h => by omega) tk st with ⟨j1, j2⟩ | ⟨M2, x0, j1, j2, F2, P3, C3⟩
  · rcases stp_lg (ρ := ρ) (S := Y) (f := fl) (n := n) (d := 0) (g := g) true t with ⟨h1, h2⟩ | ⟨f', x, h1, h2, -⟩
    · obtain ⟨M', k1, F1, a1⟩ := cTal (c := c) A C V.1 (by omega) ac
      have eL : sdL ρ Y n g t c L = [(pgU ρ Y, 0, c)] := by
        unfold sdL
        rw [h2]
      rw [eL]
      exact Or.inl ⟨j1, M', k1, MF_9 F1, a1⟩
    · rw [j2] at h1; cases h1
  · rcases stp_lg (ρ := ρ) (S := Y) (f := fl) (n := n) (d := 0) (g := g) true t with ⟨h1, h2⟩ | ⟨f', x, h1, h2, -⟩
    · rw [j2] at h1; cases h1
    · rw [j2] at h1
      obtain rfl := Option.some.inj h1
      obtain ⟨V3, G3, n3, -⟩ := stp_ok hR V G j2 tk.1
      obtain ⟨G4, cx4, d4⟩ := stp_x hR V G G2 cx t5 j2
      have d4 : x.2.2.1 = 0 := d4
      have P3 : PG M2 (e + 26 * l) x.2.1 x.2.2.1 x.2.2.2 := P3
      rw [d4] at P3
      have F3 : MF l M M2 := ⟨F2.1, fun a h1 h2 => F2.2 a (by omega) (by omega)⟩
      have A2 := SHP_MF A F3
      have eL : sdL ρ Y n g t c L = L x := by
        unfold sdL
        rw [h2]
      rw [eL]
      obtain ⟨M3, r1, r2, r3⟩ := rec M2 x f' h2 A2 F3 C3 V3 G3 G4 cx4 n3 P3 (PG_cg P2 (fun a h1 h2 => F2.2 a (by omega) (by omega))) (AcX_cg ac (F2.2 791 (by omega) (by omega)))
      exact Or.inr ⟨M2, j1, A2, M3, r1, MF_tr F3 r2, r3⟩
end MW
