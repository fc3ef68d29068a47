/-! READING: a whole clause -/
def loS (j : Nat) : Nat := if j = 2 then 4 else 1
def hiS (j : Nat) : Nat := if j = 0 then 4 else if j = 1 then 16 else if j = 2 then 40 else if j = 3 then 9 else 30
def usS (j : Nat) : Nat := if j = 0 then 2 else if j = 1 then 6 else if j = 2 then 16 else if j = 3 then 3 else 8
section IC2
variable {M M1 M2 N : Mem} {l : List Nat} {a : Nat} {w : Int32}
theorem rdi_ok {tx aL aH tg : Nat} {v5 : Int32} {r : Mem ⊕ (Mem ⊕ Mem)} (h : LU_readItems_6 1000000 4 tx aL aH tg v5 (nI 0) (nI 0) M = some r) : fU_readItems 4 tx aL aH tg v5 M = some (outI r) := by
  unfold fU_readItems
  have h : LU_readItems_6 1000000 4 tx aL aH tg v5 0 0 M = some r := h
  rw [h, bs1n]
  rcases r with r | r | r <;> rfl
theorem cItS (lk : LOK l) (A : SHP M) (h : RdC M l a mI) (ha : a ≤ l.length) (hv : ∀ j, j < 5 → giM M 9 (0 + j) = nI (usS j)) : ∃ M', fU_readItems 4 6001 5001 5002 9 (nI 0) M = some M' ∧ FI 9 0 5 M M' ∧ ((∃ p f', itL 0 loS hiS l 6 a 0 usS = .inl (p, f') ∧ RdC M' l p mI ∧ p ≤ l.length ∧ ∀ j, j < 5 → giM M' 9 (0 + j) = nI (f' j)) ∨ (∃ p p', itL 0 loS hiS l 6 a 0 usS = .inr (.inl p) ∧ p ≤ 240 ∧ RdC M' l p' (nI p)) ∨ ∃ e p', itL 0 loS hiS l 6 a 0 usS = .inr (.inr e) ∧ e ≤ 240 ∧ RdC M' l p' (nI e)) := by
  obtain ⟨r, k, F, hh⟩ := itc_loop (i := 0) (tx := 6001) (aL := 5001) (aH := 5002) (tg := 9) (o := 0) (nT := 5) (many := 5) (lo := loS) (hi := hiS) lk (by decide) (fun M => len_ok (i := 0) (by omega) (by decide)) (fun M c hc => ixo_ok (i := 0) (by omega) (by decide) (by decide) hc) (by decide) (Or.inr rfl) (by omega) (by omega) (by decide) (by decide) (by omega) (by omega) (by decide) (by decide) (by decide) (by omega) (by omega) (by omega) (by omega) 5 1000000 M a 0 usS (by decide) (by decide) (by omega) A (sh_ar A (by omega) (by omega) (by decide) (by omega)) h ha hv
  exact ⟨outI r, rdi_ok k, F, hh⟩
theorem cItC {o : Nat} (lk : LOK l) (A : SHP M) (h : RdC M l a mI) (ha : a ≤ l.length) (ho : o < 6) (hv : giM M 10 o = nI 1) : ∃ M', fU_readItems 4 6002 5004 5005 10 (nI o) M = some M' ∧ FI 10 o 1 M M' ∧ ((∃ p f', itL 1 (fun _ => 1) (fun _ => 40) l 2 a 0 (fun _ => 1) = .inl (p, f') ∧ RdC M' l p mI ∧ p ≤ l.length ∧ giM M' 10 o = nI (f' 0)) ∨ (∃ p p', itL 1 (fun _ => 1) (fun _ => 40) l 2 a 0 (fun _ => 1) = .inr (.inl p) ∧ p ≤ 240 ∧ RdC M' l p' (nI p)) ∨ ∃ e p', itL 1 (fun _ => 1) (fun _ => 40) l 2 a 0 (fun _ => 1) = .inr (.inr e) ∧ e ≤ 240 ∧ RdC M' l p' (nI e)) := by
  obtain ⟨r, k, F, hh⟩ := itc_loop (i := 1) (tx := 6002) (aL := 5004) (aH := 5005) (tg := 10) (o := o) (nT := 6) (many := 1) (lo := fun _ => 1) (hi := fun _ => 40) lk (by decide) (fun M => len_ok (i := 1) (by omega) (by decide)) (fun M c hc => ixo_ok (i := 1) (by omega) (by decide) (by decide) hc) (by decide) (Or.inl ⟨rfl, rfl⟩) (by omega) (by omega) (by decide) (by decide) (by omega) (by omega) (by decide) (by decide) (by intro j _; exact ⟨by omega, by omega⟩) (by omega) (by omega) (by omega) (by omega) 1 1000000 M a 0 (fun _ => 1) (by decide) (by decide) (by omega) A (sh_ar A (by omega) (by omega) (by decide) (by omega)) h ha (fun j hj => by
    obtain rfl : j = 0 := by omega
    exact hv)
  refine ⟨outI r, rdi_ok k, F, ?_⟩
  rcases hh with ⟨p, f', h1, h2, h3, h4⟩ | h | h
  · exact Or.inl ⟨p, f', h1, h2, h3, h4 0 (by omega)⟩
  · exact Or.inr (Or.inl h)
  · exact Or.inr (Or.inr h)
end IC2
