/-! THE SHAPE OF A HEAP OF THE CLASS -/
def HS (M : Mem) (h : Nat) : Prop := (31 < h ∧ h < 1000) ∧ obM M h 1 9 = true ∧ (grM M h 0 = 5 ∧ grM M h 1 = h + 1 ∧ grM M h 2 = h + 2 ∧ grM M h 3 = h + 3 ∧ grM M h 4 = h + 4 ∧ grM M h 5 = h + 9 ∧ grM M h 6 = h + 14 ∧ grM M h 7 = h + 15 ∧ grM M h 8 = h + 16) ∧ (arS M (h + 1) 16 ∧ arS M (h + 2) 16 ∧ arS M (h + 3) 16 ∧ arS M (h + 14) 4 ∧ arS M (h + 15) 4) ∧ ChS M (h + 4) 24 16 ∧ ChS M (h + 9) 112 640 ∧ (obM M (h + 16) 2 2 = true ∧ grM M (h + 16) 0 = h + 17 ∧ arS M (h + 17) 60) ∧ (obM M 5 7 3 = true ∧ grM M 5 0 = 6 ∧ grM M 5 1 = 7 ∧ arS M 6 5 ∧ arS M 7 6)
section HS
variable {M : Mem} {h i : Nat}
theorem HS_2 {M' : Mem} (e : M'.2 = M.2) (H : HS M h) : HS M' h := by
  obtain ⟨I, T⟩ := M
  obtain ⟨I', T'⟩ := M'
  obtain rfl : T' = T := e
  exact H
theorem hs_b (H : HS M h) : 31 < h ∧ h < 1000 := H.1
theorem hs_ob (H : HS M h) : obM M h 1 9 = true := H.2.1
theorem hs_q (H : HS M h) : ChS M (h + 4) 24 16 := H.2.2.2.2.1
theorem hs_k (H : HS M h) : ChS M (h + 9) 112 640 := H.2.2.2.2.2.1
theorem hs_g0 (H : HS M h) : grM M h 0 = 5 := H.2.2.1.1
theorem hs_g1 (H : HS M h) : grM M h 1 = h + 1 := H.2.2.1.2.1
theorem hs_g2 (H : HS M h) : grM M h 2 = h + 2 := H.2.2.1.2.2.1
theorem hs_g3 (H : HS M h) : grM M h 3 = h + 3 := H.2.2.1.2.2.2.1
theorem hs_g4 (H : HS M h) : grM M h 4 = h + 4 := H.2.2.1.2.2.2.2.1
theorem hs_g5 (H : HS M h) : grM M h 5 = h + 9 := H.2.2.1.2.2.2.2.2.1
theorem hs_g6 (H : HS M h) : grM M h 6 = h + 14 := H.2.2.1.2.2.2.2.2.2.1
theorem hs_g7 (H : HS M h) : grM M h 7 = h + 15 := H.2.2.1.2.2.2.2.2.2.2.1
theorem hs_g8 (H : HS M h) : grM M h 8 = h + 16 := H.2.2.1.2.2.2.2.2.2.2.2
theorem hs_a1 (H : HS M h) : arS M (h + 1) 16 := H.2.2.2.1.1
theorem hs_t1 (H : HS M h) : tgM M (h + 1) = (100, 16) := ar_tg (hs_a1 H)
theorem hs_r1 (H : HS M h) (hi : i < 16) : rdI M (h + 1) (nI i) = true := ar_rd (hs_a1 H) hi
theorem hs_w1 (H : HS M h) (hi : i < 16) : wrI M (h + 1) (nI i) = true := ar_wr (hs_a1 H) hi
theorem hs_l1 (H : HS M h) : lnI M (h + 1) = true := ar_ln (hs_a1 H)
theorem hs_a2 (H : HS M h) : arS M (h + 2) 16 := H.2.2.2.1.2.1
theorem hs_t2 (H : HS M h) : tgM M (h + 2) = (100, 16) := ar_tg (hs_a2 H)
theorem hs_r2 (H : HS M h) (hi : i < 16) : rdI M (h + 2) (nI i) = true := ar_rd (hs_a2 H) hi
theorem hs_w2 (H : HS M h) (hi : i < 16) : wrI M (h + 2) (nI i) = true := ar_wr (hs_a2 H) hi
theorem hs_l2 (H : HS M h) : lnI M (h + 2) = true := ar_ln (hs_a2 H)
theorem hs_a3 (H : HS M h) : arS M (h + 3) 16 := H.2.2.2.1.2.2.1
theorem hs_t3 (H : HS M h) : tgM M (h + 3) = (100, 16) := ar_tg (hs_a3 H)
theorem hs_r3 (H : HS M h) (hi : i < 16) : rdI M (h + 3) (nI i) = true := ar_rd (hs_a3 H) hi
theorem hs_w3 (H : HS M h) (hi : i < 16) : wrI M (h + 3) (nI i) = true := ar_wr (hs_a3 H) hi
theorem hs_l3 (H : HS M h) : lnI M (h + 3) = true := ar_ln (hs_a3 H)
theorem hs_a14 (H : HS M h) : arS M (h + 14) 4 := H.2.2.2.1.2.2.2.1
theorem hs_t14 (H : HS M h) : tgM M (h + 14) = (100, 4) := ar_tg (hs_a14 H)
theorem hs_r14 (H : HS M h) (hi : i < 4) : rdI M (h + 14) (nI i) = true := ar_rd (hs_a14 H) hi
theorem hs_w14 (H : HS M h) (hi : i < 4) : wrI M (h + 14) (nI i) = true := ar_wr (hs_a14 H) hi
theorem hs_l14 (H : HS M h) : lnI M (h + 14) = true := ar_ln (hs_a14 H)
theorem hs_a15 (H : HS M h) : arS M (h + 15) 4 := H.2.2.2.1.2.2.2.2
theorem hs_t15 (H : HS M h) : tgM M (h + 15) = (100, 4) := ar_tg (hs_a15 H)
theorem hs_r15 (H : HS M h) (hi : i < 4) : rdI M (h + 15) (nI i) = true := ar_rd (hs_a15 H) hi
theorem hs_w15 (H : HS M h) (hi : i < 4) : wrI M (h + 15) (nI i) = true := ar_wr (hs_a15 H) hi
theorem hs_l15 (H : HS M h) : lnI M (h + 15) = true := ar_ln (hs_a15 H)
theorem hs_ob4 (H : HS M h) : obM M (h + 4) 0 4 = true := cs_ob (hs_q H)
theorem hs_g4_0 (H : HS M h) : grM M (h + 4) 0 = h + 5 := cs_g0 (hs_q H)
theorem hs_a5 (H : HS M h) : arS M (h + 5) 24 := (hs_q H).2.2.2.1
theorem hs_t5 (H : HS M h) : tgM M (h + 5) = (100, 24) := ar_tg (hs_a5 H)
theorem hs_r5 (H : HS M h) (hi : i < 24) : rdI M (h + 5) (nI i) = true := ar_rd (hs_a5 H) hi
theorem hs_w5 (H : HS M h) (hi : i < 24) : wrI M (h + 5) (nI i) = true := ar_wr (hs_a5 H) hi
theorem hs_l5 (H : HS M h) : lnI M (h + 5) = true := ar_ln (hs_a5 H)
theorem hs_g4_1 (H : HS M h) : grM M (h + 4) 1 = h + 6 := cs_g1 (hs_q H)
theorem hs_a6 (H : HS M h) : arS M (h + 6) 24 := (hs_q H).2.2.2.2.1
theorem hs_t6 (H : HS M h) : tgM M (h + 6) = (100, 24) := ar_tg (hs_a6 H)
theorem hs_r6 (H : HS M h) (hi : i < 24) : rdI M (h + 6) (nI i) = true := ar_rd (hs_a6 H) hi
theorem hs_w6 (H : HS M h) (hi : i < 24) : wrI M (h + 6) (nI i) = true := ar_wr (hs_a6 H) hi
theorem hs_l6 (H : HS M h) : lnI M (h + 6) = true := ar_ln (hs_a6 H)
theorem hs_g4_2 (H : HS M h) : grM M (h + 4) 2 = h + 7 := cs_g2 (hs_q H)
theorem hs_a7 (H : HS M h) : arS M (h + 7) 16 := (hs_q H).2.2.2.2.2.1
theorem hs_t7 (H : HS M h) : tgM M (h + 7) = (100, 16) := ar_tg (hs_a7 H)
theorem hs_r7 (H : HS M h) (hi : i < 16) : rdI M (h + 7) (nI i) = true := ar_rd (hs_a7 H) hi
theorem hs_w7 (H : HS M h) (hi : i < 16) : wrI M (h + 7) (nI i) = true := ar_wr (hs_a7 H) hi
theorem hs_l7 (H : HS M h) : lnI M (h + 7) = true := ar_ln (hs_a7 H)
theorem hs_g4_3 (H : HS M h) : grM M (h + 4) 3 = h + 8 := cs_g3 (hs_q H)
theorem hs_a8 (H : HS M h) : arS M (h + 8) 16 := (hs_q H).2.2.2.2.2.2
theorem hs_t8 (H : HS M h) : tgM M (h + 8) = (100, 16) := ar_tg (hs_a8 H)
theorem hs_r8 (H : HS M h) (hi : i < 16) : rdI M (h + 8) (nI i) = true := ar_rd (hs_a8 H) hi
theorem hs_w8 (H : HS M h) (hi : i < 16) : wrI M (h + 8) (nI i) = true := ar_wr (hs_a8 H) hi
theorem hs_l8 (H : HS M h) : lnI M (h + 8) = true := ar_ln (hs_a8 H)
theorem hs_ob9 (H : HS M h) : obM M (h + 9) 0 4 = true := cs_ob (hs_k H)
theorem hs_g9_0 (H : HS M h) : grM M (h + 9) 0 = h + 10 := cs_g0 (hs_k H)
theorem hs_a10 (H : HS M h) : arS M (h + 10) 112 := (hs_k H).2.2.2.1
theorem hs_t10 (H : HS M h) : tgM M (h + 10) = (100, 112) := ar_tg (hs_a10 H)
theorem hs_r10 (H : HS M h) (hi : i < 112) : rdI M (h + 10) (nI i) = true := ar_rd (hs_a10 H) hi
theorem hs_w10 (H : HS M h) (hi : i < 112) : wrI M (h + 10) (nI i) = true := ar_wr (hs_a10 H) hi
theorem hs_l10 (H : HS M h) : lnI M (h + 10) = true := ar_ln (hs_a10 H)
theorem hs_g9_1 (H : HS M h) : grM M (h + 9) 1 = h + 11 := cs_g1 (hs_k H)
theorem hs_a11 (H : HS M h) : arS M (h + 11) 112 := (hs_k H).2.2.2.2.1
theorem hs_t11 (H : HS M h) : tgM M (h + 11) = (100, 112) := ar_tg (hs_a11 H)
theorem hs_r11 (H : HS M h) (hi : i < 112) : rdI M (h + 11) (nI i) = true := ar_rd (hs_a11 H) hi
theorem hs_w11 (H : HS M h) (hi : i < 112) : wrI M (h + 11) (nI i) = true := ar_wr (hs_a11 H) hi
theorem hs_l11 (H : HS M h) : lnI M (h + 11) = true := ar_ln (hs_a11 H)
theorem hs_g9_2 (H : HS M h) : grM M (h + 9) 2 = h + 12 := cs_g2 (hs_k H)
theorem hs_a12 (H : HS M h) : arS M (h + 12) 640 := (hs_k H).2.2.2.2.2.1
theorem hs_t12 (H : HS M h) : tgM M (h + 12) = (100, 640) := ar_tg (hs_a12 H)
theorem hs_r12 (H : HS M h) (hi : i < 640) : rdI M (h + 12) (nI i) = true := ar_rd (hs_a12 H) hi
theorem hs_w12 (H : HS M h) (hi : i < 640) : wrI M (h + 12) (nI i) = true := ar_wr (hs_a12 H) hi
theorem hs_l12 (H : HS M h) : lnI M (h + 12) = true := ar_ln (hs_a12 H)
theorem hs_g9_3 (H : HS M h) : grM M (h + 9) 3 = h + 13 := cs_g3 (hs_k H)
theorem hs_a13 (H : HS M h) : arS M (h + 13) 640 := (hs_k H).2.2.2.2.2.2
theorem hs_t13 (H : HS M h) : tgM M (h + 13) = (100, 640) := ar_tg (hs_a13 H)
theorem hs_r13 (H : HS M h) (hi : i < 640) : rdI M (h + 13) (nI i) = true := ar_rd (hs_a13 H) hi
theorem hs_w13 (H : HS M h) (hi : i < 640) : wrI M (h + 13) (nI i) = true := ar_wr (hs_a13 H) hi
theorem hs_l13 (H : HS M h) : lnI M (h + 13) = true := ar_ln (hs_a13 H)
theorem hs_ob16 (H : HS M h) : obM M (h + 16) 2 2 = true := H.2.2.2.2.2.2.1.1
theorem hs_g16 (H : HS M h) : grM M (h + 16) 0 = h + 17 := H.2.2.2.2.2.2.1.2.1
theorem hs_a17 (H : HS M h) : arS M (h + 17) 60 := H.2.2.2.2.2.2.1.2.2
theorem hs_t17 (H : HS M h) : tgM M (h + 17) = (100, 60) := ar_tg (hs_a17 H)
theorem hs_r17 (H : HS M h) (hi : i < 60) : rdI M (h + 17) (nI i) = true := ar_rd (hs_a17 H) hi
theorem hs_w17 (H : HS M h) (hi : i < 60) : wrI M (h + 17) (nI i) = true := ar_wr (hs_a17 H) hi
theorem hs_l17 (H : HS M h) : lnI M (h + 17) = true := ar_ln (hs_a17 H)
theorem hs_ob5 (H : HS M h) : obM M 5 7 3 = true := H.2.2.2.2.2.2.2.1
theorem hs_g50 (H : HS M h) : grM M 5 0 = 6 := H.2.2.2.2.2.2.2.2.1
theorem hs_g51 (H : HS M h) : grM M 5 1 = 7 := H.2.2.2.2.2.2.2.2.2.1
theorem hs_au6 (H : HS M h) : arS M 6 5 := H.2.2.2.2.2.2.2.2.2.2.1
theorem hs_tu6 (H : HS M h) : tgM M 6 = (100, 5) := ar_tg (hs_au6 H)
theorem hs_ru6 (H : HS M h) (hi : i < 5) : rdI M 6 (nI i) = true := ar_rd (hs_au6 H) hi
theorem hs_wu6 (H : HS M h) (hi : i < 5) : wrI M 6 (nI i) = true := ar_wr (hs_au6 H) hi
theorem hs_lu6 (H : HS M h) : lnI M 6 = true := ar_ln (hs_au6 H)
theorem hs_au7 (H : HS M h) : arS M 7 6 := H.2.2.2.2.2.2.2.2.2.2.2
theorem hs_tu7 (H : HS M h) : tgM M 7 = (100, 6) := ar_tg (hs_au7 H)
theorem hs_ru7 (H : HS M h) (hi : i < 6) : rdI M 7 (nI i) = true := ar_rd (hs_au7 H) hi
theorem hs_wu7 (H : HS M h) (hi : i < 6) : wrI M 7 (nI i) = true := ar_wr (hs_au7 H) hi
theorem hs_lu7 (H : HS M h) : lnI M 7 = true := ar_ln (hs_au7 H)
end HS
/-! RULES: threads, pages, units, batch, beat, classes, sizes -/
abbrev Rul : Type := Nat × Nat × Nat × Nat × Nat × Nat × (Nat → Nat)
def rT (ρ : Rul) : Nat := ρ.1
def rP (ρ : Rul) : Nat := ρ.2.1
def rU (ρ : Rul) : Nat := ρ.2.2.1
def rB (ρ : Rul) : Nat := ρ.2.2.2.1
def rH (ρ : Rul) : Nat := ρ.2.2.2.2.1
def rK (ρ : Rul) : Nat := ρ.2.2.2.2.2.1
def rZ (ρ : Rul) : Nat → Nat := ρ.2.2.2.2.2.2
def RuB (ρ : Rul) : Prop := (1 ≤ rT ρ ∧ rT ρ ≤ 4) ∧ (1 ≤ rP ρ ∧ rP ρ ≤ 16) ∧ (4 ≤ rU ρ ∧ rU ρ ≤ 40) ∧ (1 ≤ rB ρ ∧ rB ρ ≤ 9) ∧ (1 ≤ rH ρ ∧ rH ρ ≤ 30) ∧ (1 ≤ rK ρ ∧ rK ρ ≤ 6)
def RuOK (ρ : Rul) : Prop := RuB ρ ∧ (∀ k, k < rK ρ → 1 ≤ rZ ρ k ∧ rZ ρ k ≤ rU ρ) ∧ ∀ k, k + 1 < rK ρ → rZ ρ k < rZ ρ (k + 1)
/-- the rules as the class has them -/
def RuC (M : Mem) (ρ : Rul) : Prop := giM M 6 0 = nI (rT ρ) ∧ giM M 6 1 = nI (rP ρ) ∧ giM M 6 2 = nI (rU ρ) ∧ giM M 6 3 = nI (rB ρ) ∧ giM M 6 4 = nI (rH ρ) ∧ giM M 5 2 = nI (rK ρ) ∧ ∀ k, k < rK ρ → giM M 7 k = nI (rZ ρ k)
section RU
variable {M : Mem} {ρ : Rul}
theorem rc_T (R : RuC M ρ) : giM M 6 0 = nI (rT ρ) := R.1
theorem rc_P (R : RuC M ρ) : giM M 6 1 = nI (rP ρ) := R.2.1
theorem rc_U (R : RuC M ρ) : giM M 6 2 = nI (rU ρ) := R.2.2.1
theorem rc_B (R : RuC M ρ) : giM M 6 3 = nI (rB ρ) := R.2.2.2.1
theorem rc_H (R : RuC M ρ) : giM M 6 4 = nI (rH ρ) := R.2.2.2.2.1
theorem rc_K (R : RuC M ρ) : giM M 5 2 = nI (rK ρ) := R.2.2.2.2.2.1
theorem rc_Z (R : RuC M ρ) {k : Nat} (h : k < rK ρ) : giM M 7 k = nI (rZ ρ k) := R.2.2.2.2.2.2 k h
theorem RuC_of {M' : Mem} (R : RuC M ρ) (e5 : giM M' 5 = giM M 5) (e6 : giM M' 6 = giM M 6) (e7 : giM M' 7 = giM M 7) : RuC M' ρ := by
  unfold RuC
  rw [e5, e6, e7]
  exact R
theorem RuC_Fr {M' : Mem} {lo hi : Nat} (R : RuC M ρ) (F : Fr M M' lo hi) (h : 7 < lo) : RuC M' ρ := RuC_of R (F.2 5 (by omega)) (F.2 6 (by omega)) (F.2 7 (by omega))
end RU
/-! AN ARENA: what each page is, its owner, its class; which blocks are held; the lists of blocks (3 p + which; 48 + 16 t + p); the queues (6 t + c); who lives; how many gets; the log, the latest first -/
abbrev HSt : Type := (Nat → Nat) × (Nat → Nat) × (Nat → Nat) × (Nat → Nat → Nat) × (Nat → List Nat) × (Nat → List Nat) × (Nat → Nat) × (Nat → Nat) × List (Nat × Nat × Nat)
def kd (S : HSt) : Nat → Nat := S.1
def ow (S : HSt) : Nat → Nat := S.2.1
def cl (S : HSt) : Nat → Nat := S.2.2.1
def hd (S : HSt) : Nat → Nat → Nat := S.2.2.2.1
def bl (S : HSt) : Nat → List Nat := S.2.2.2.2.1
def qu (S : HSt) : Nat → List Nat := S.2.2.2.2.2.1
def lv (S : HSt) : Nat → Nat := S.2.2.2.2.2.2.1
def gt (S : HSt) : Nat → Nat := S.2.2.2.2.2.2.2.1
def lg (S : HSt) : List (Nat × Nat × Nat) := S.2.2.2.2.2.2.2.2
def wkd (S : HSt) (f : Nat → Nat) : HSt := (f, S.2)
def wow (S : HSt) (f : Nat → Nat) : HSt := (S.1, f, S.2.2)
def wcl (S : HSt) (f : Nat → Nat) : HSt := (S.1, S.2.1, f, S.2.2.2)
def whd (S : HSt) (f : Nat → Nat → Nat) : HSt := (S.1, S.2.1, S.2.2.1, f, S.2.2.2.2)
def wbl (S : HSt) (f : Nat → List Nat) : HSt := (S.1, S.2.1, S.2.2.1, S.2.2.2.1, f, S.2.2.2.2.2)
def wqu (S : HSt) (f : Nat → List Nat) : HSt := (S.1, S.2.1, S.2.2.1, S.2.2.2.1, S.2.2.2.2.1, f, S.2.2.2.2.2.2)
def wlv (S : HSt) (f : Nat → Nat) : HSt := (S.1, S.2.1, S.2.2.1, S.2.2.2.1, S.2.2.2.2.1, S.2.2.2.2.2.1, f, S.2.2.2.2.2.2.2)
def wgt (S : HSt) (f : Nat → Nat) : HSt := (S.1, S.2.1, S.2.2.1, S.2.2.2.1, S.2.2.2.2.1, S.2.2.2.2.2.1, S.2.2.2.2.2.2.1, f, S.2.2.2.2.2.2.2.2)
def wlg (S : HSt) (f : List (Nat × Nat × Nat)) : HSt := (S.1, S.2.1, S.2.2.1, S.2.2.2.1, S.2.2.2.2.1, S.2.2.2.2.2.1, S.2.2.2.2.2.2.1, S.2.2.2.2.2.2.2.1, f)
theorem kd_wkd (S : HSt) (f : Nat → Nat) : kd (wkd S f) = f := rfl
theorem kd_wow (S : HSt) (f : Nat → Nat) : kd (wow S f) = kd S := rfl
theorem kd_wcl (S : HSt) (f : Nat → Nat) : kd (wcl S f) = kd S := rfl
theorem kd_whd (S : HSt) (f : Nat → Nat → Nat) : kd (whd S f) = kd S := rfl
theorem kd_wbl (S : HSt) (f : Nat → List Nat) : kd (wbl S f) = kd S := rfl
theorem kd_wqu (S : HSt) (f : Nat → List Nat) : kd (wqu S f) = kd S := rfl
theorem kd_wlv (S : HSt) (f : Nat → Nat) : kd (wlv S f) = kd S := rfl
theorem kd_wgt (S : HSt) (f : Nat → Nat) : kd (wgt S f) = kd S := rfl
theorem kd_wlg (S : HSt) (f : List (Nat × Nat × Nat)) : kd (wlg S f) = kd S := rfl
theorem ow_wkd (S : HSt) (f : Nat → Nat) : ow (wkd S f) = ow S := rfl
theorem ow_wow (S : HSt) (f : Nat → Nat) : ow (wow S f) = f := rfl
theorem ow_wcl (S : HSt) (f : Nat → Nat) : ow (wcl S f) = ow S := rfl
theorem ow_whd (S : HSt) (f : Nat → Nat → Nat) : ow (whd S f) = ow S := rfl
theorem ow_wbl (S : HSt) (f : Nat → List Nat) : ow (wbl S f) = ow S := rfl
theorem ow_wqu (S : HSt) (f : Nat → List Nat) : ow (wqu S f) = ow S := rfl
theorem ow_wlv (S : HSt) (f : Nat → Nat) : ow (wlv S f) = ow S := rfl
theorem ow_wgt (S : HSt) (f : Nat → Nat) : ow (wgt S f) = ow S := rfl
theorem ow_wlg (S : HSt) (f : List (Nat × Nat × Nat)) : ow (wlg S f) = ow S := rfl
theorem cl_wkd (S : HSt) (f : Nat → Nat) : cl (wkd S f) = cl S := rfl
theorem cl_wow (S : HSt) (f : Nat → Nat) : cl (wow S f) = cl S := rfl
theorem cl_wcl (S : HSt) (f : Nat → Nat) : cl (wcl S f) = f := rfl
theorem cl_whd (S : HSt) (f : Nat → Nat → Nat) : cl (whd S f) = cl S := rfl
theorem cl_wbl (S : HSt) (f : Nat → List Nat) : cl (wbl S f) = cl S := rfl
theorem cl_wqu (S : HSt) (f : Nat → List Nat) : cl (wqu S f) = cl S := rfl
theorem cl_wlv (S : HSt) (f : Nat → Nat) : cl (wlv S f) = cl S := rfl
theorem cl_wgt (S : HSt) (f : Nat → Nat) : cl (wgt S f) = cl S := rfl
theorem cl_wlg (S : HSt) (f : List (Nat × Nat × Nat)) : cl (wlg S f) = cl S := rfl
theorem hd_wkd (S : HSt) (f : Nat → Nat) : hd (wkd S f) = hd S := rfl
theorem hd_wow (S : HSt) (f : Nat → Nat) : hd (wow S f) = hd S := rfl
theorem hd_wcl (S : HSt) (f : Nat → Nat) : hd (wcl S f) = hd S := rfl
theorem hd_whd (S : HSt) (f : Nat → Nat → Nat) : hd (whd S f) = f := rfl
theorem hd_wbl (S : HSt) (f : Nat → List Nat) : hd (wbl S f) = hd S := rfl
theorem hd_wqu (S : HSt) (f : Nat → List Nat) : hd (wqu S f) = hd S := rfl
theorem hd_wlv (S : HSt) (f : Nat → Nat) : hd (wlv S f) = hd S := rfl
theorem hd_wgt (S : HSt) (f : Nat → Nat) : hd (wgt S f) = hd S := rfl
theorem hd_wlg (S : HSt) (f : List (Nat × Nat × Nat)) : hd (wlg S f) = hd S := rfl
theorem bl_wkd (S : HSt) (f : Nat → Nat) : bl (wkd S f) = bl S := rfl
theorem bl_wow (S : HSt) (f : Nat → Nat) : bl (wow S f) = bl S := rfl
theorem bl_wcl (S : HSt) (f : Nat → Nat) : bl (wcl S f) = bl S := rfl
theorem bl_whd (S : HSt) (f : Nat → Nat → Nat) : bl (whd S f) = bl S := rfl
theorem bl_wbl (S : HSt) (f : Nat → List Nat) : bl (wbl S f) = f := rfl
theorem bl_wqu (S : HSt) (f : Nat → List Nat) : bl (wqu S f) = bl S := rfl
theorem bl_wlv (S : HSt) (f : Nat → Nat) : bl (wlv S f) = bl S := rfl
theorem bl_wgt (S : HSt) (f : Nat → Nat) : bl (wgt S f) = bl S := rfl
theorem bl_wlg (S : HSt) (f : List (Nat × Nat × Nat)) : bl (wlg S f) = bl S := rfl
theorem qu_wkd (S : HSt) (f : Nat → Nat) : qu (wkd S f) = qu S := rfl
theorem qu_wow (S : HSt) (f : Nat → Nat) : qu (wow S f) = qu S := rfl
theorem qu_wcl (S : HSt) (f : Nat → Nat) : qu (wcl S f) = qu S := rfl
theorem qu_whd (S : HSt) (f : Nat → Nat → Nat) : qu (whd S f) = qu S := rfl
theorem qu_wbl (S : HSt) (f : Nat → List Nat) : qu (wbl S f) = qu S := rfl
theorem qu_wqu (S : HSt) (f : Nat → List Nat) : qu (wqu S f) = f := rfl
theorem qu_wlv (S : HSt) (f : Nat → Nat) : qu (wlv S f) = qu S := rfl
theorem qu_wgt (S : HSt) (f : Nat → Nat) : qu (wgt S f) = qu S := rfl
theorem qu_wlg (S : HSt) (f : List (Nat × Nat × Nat)) : qu (wlg S f) = qu S := rfl
theorem lv_wkd (S : HSt) (f : Nat → Nat) : lv (wkd S f) = lv S := rfl
theorem lv_wow (S : HSt) (f : Nat → Nat) : lv (wow S f) = lv S := rfl
theorem lv_wcl (S : HSt) (f : Nat → Nat) : lv (wcl S f) = lv S := rfl
theorem lv_whd (S : HSt) (f : Nat → Nat → Nat) : lv (whd S f) = lv S := rfl
theorem lv_wbl (S : HSt) (f : Nat → List Nat) : lv (wbl S f) = lv S := rfl
theorem lv_wqu (S : HSt) (f : Nat → List Nat) : lv (wqu S f) = lv S := rfl
theorem lv_wlv (S : HSt) (f : Nat → Nat) : lv (wlv S f) = f := rfl
theorem lv_wgt (S : HSt) (f : Nat → Nat) : lv (wgt S f) = lv S := rfl
theorem lv_wlg (S : HSt) (f : List (Nat × Nat × Nat)) : lv (wlg S f) = lv S := rfl
theorem gt_wkd (S : HSt) (f : Nat → Nat) : gt (wkd S f) = gt S := rfl
theorem gt_wow (S : HSt) (f : Nat → Nat) : gt (wow S f) = gt S := rfl
theorem gt_wcl (S : HSt) (f : Nat → Nat) : gt (wcl S f) = gt S := rfl
theorem gt_whd (S : HSt) (f : Nat → Nat → Nat) : gt (whd S f) = gt S := rfl
theorem gt_wbl (S : HSt) (f : Nat → List Nat) : gt (wbl S f) = gt S := rfl
theorem gt_wqu (S : HSt) (f : Nat → List Nat) : gt (wqu S f) = gt S := rfl
theorem gt_wlv (S : HSt) (f : Nat → Nat) : gt (wlv S f) = gt S := rfl
theorem gt_wgt (S : HSt) (f : Nat → Nat) : gt (wgt S f) = f := rfl
theorem gt_wlg (S : HSt) (f : List (Nat × Nat × Nat)) : gt (wlg S f) = gt S := rfl
theorem lg_wkd (S : HSt) (f : Nat → Nat) : lg (wkd S f) = lg S := rfl
theorem lg_wow (S : HSt) (f : Nat → Nat) : lg (wow S f) = lg S := rfl
theorem lg_wcl (S : HSt) (f : Nat → Nat) : lg (wcl S f) = lg S := rfl
theorem lg_whd (S : HSt) (f : Nat → Nat → Nat) : lg (whd S f) = lg S := rfl
theorem lg_wbl (S : HSt) (f : Nat → List Nat) : lg (wbl S f) = lg S := rfl
theorem lg_wqu (S : HSt) (f : Nat → List Nat) : lg (wqu S f) = lg S := rfl
theorem lg_wlv (S : HSt) (f : Nat → Nat) : lg (wlv S f) = lg S := rfl
theorem lg_wgt (S : HSt) (f : Nat → Nat) : lg (wgt S f) = lg S := rfl
theorem lg_wlg (S : HSt) (f : List (Nat × Nat × Nat)) : lg (wlg S f) = f := rfl
/-- how many blocks a page has -/
def cut (ρ : Rul) (S : HSt) (p : Nat) : Nat := if kd S p = 0 then 0 else rU ρ / rZ ρ (cl S p)
def lst (S : HSt) (p : Nat) : Nat := (bl S (3 * p)).length + (bl S (3 * p + 1)).length + (bl S (3 * p + 2)).length
def usd (ρ : Rul) (S : HSt) (p : Nat) : Nat := cut ρ S p - lst S p
def pl (l : Nat) : Nat := if l < 48 then l / 3 else (l - 48) % 16
def LT (S : HSt) (l : Nat) : List Nat := (bl S l).map (40 * pl l + ·)
def kI (S : HSt) (p : Nat) : Int32 := if kd S p = 0 then mI else nI (cl S p)
def oI (S : HSt) (p : Nat) : Int32 := if kd S p = 1 ∨ kd S p = 2 then nI (ow S p) else mI
def enc (e : Nat × Nat × Nat) : Int32 := nI ((e.1 * 10 + e.2.1) * 10 + e.2.2)
def LogV (β : Nat) (a : Int32) (en : Nat → Int32) (lg : List (Nat × Nat × Nat)) : Prop := ∃ n, n ≤ β ∧ a = nI n ∧ lg.length = min n 60 ∧ ∀ i (h : i < lg.length), en ((n - 1 - i) % 60) = enc (lg[i]'h)
/-- a heap of the class tells an arena -/
def CV (M : Mem) (h : Nat) (ρ : Rul) (β : Nat) (S : HSt) : Prop :=
  (∀ p, p < 16 → giM M (h + 1) p = kI S p ∧ giM M (h + 2) p = oI S p ∧ giM M (h + 3) p = nI (cut ρ S p) ∧ (kd S p ≠ 1 → giM M (h + 8) p = mI)) ∧
  ChM M (h + 4) (qu S) 24 16 ∧ ChM M (h + 9) (LT S) 112 640 ∧
  (∀ p b, p < 16 → b < cut ρ S p → hd S p b = 1 → giM M (h + 13) (40 * p + b) = mI) ∧
  (∀ t, t < 4 → (t < rT ρ → giM M (h + 14) t = nI (lv S t)) ∧ giM M (h + 15) t = nI (gt S t)) ∧
  LogV β (giM M (h + 16) 1) (giM M (h + 17)) (lg S)
/-- how often a block is in a list or an outbox -/
def ct (S : HSt) (p b : Nat) : Nat := (bl S (3 * p)).count b + (bl S (3 * p + 1)).count b + (bl S (3 * p + 2)).count b + (bl S (48 + 16 * 0 + p)).count b + (bl S (48 + 16 * 1 + p)).count b + (bl S (48 + 16 * 2 + p)).count b + (bl S (48 + 16 * 3 + p)).count b
/-- what always holds of an arena -/
def I1 (ρ : Rul) (S : HSt) : Prop := ∀ p, p < 16 → kd S p ≤ 3 ∧ (kd S p ≠ 0 → p < rP ρ ∧ cl S p < rK ρ) ∧ (kd S p = 1 ∨ kd S p = 2 → ow S p < rT ρ) ∧ (kd S p = 2 → bl S (3 * p) = [])
def I2 (ρ : Rul) (S : HSt) : Prop := ∀ p, p < 16 → ∀ b, (b < cut ρ S p → ct S p b + hd S p b = 1) ∧ (cut ρ S p ≤ b → ct S p b = 0)
def I3 (S : HSt) : Prop := ∀ q, q < 24 → (qu S q).Nodup ∧ ∀ p, p ∈ qu S q ↔ p < 16 ∧ kd S p = 1 ∧ 6 * ow S p + cl S p = q
def I4 (ρ : Rul) (S : HSt) : Prop := ∀ t p, t < 4 → p < 16 → (bl S (48 + 16 * t + p)).length ≤ 9 ∧ (rT ρ ≤ t → bl S (48 + 16 * t + p) = [])
def I5 (β : Nat) (S : HSt) : Prop := (∀ t, t < 4 → lv S t ≤ 1 ∧ gt S t ≤ β) ∧ (lg S).length ≤ 60 ∧ ∀ e ∈ lg S, e.1 < 1600 ∧ e.2.1 < 4 ∧ e.2.2 ≤ 5
def Inv (ρ : Rul) (β : Nat) (S : HSt) : Prop := I1 ρ S ∧ I2 ρ S ∧ I3 S ∧ I4 ρ S ∧ I5 β S
def BoxB (ρ : Rul) (S : HSt) : Prop := ∀ t p, t < 4 → p < 16 → (bl S (48 + 16 * t + p)).length < rB ρ
