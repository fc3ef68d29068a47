/-! THE SHAPE OF THE WHOLE MEMORY -/
def hpsL : List Nat := 32 :: 772 :: 981 :: ((List.range 40).map (52 + 18 * ·) ++ (List.range 7).map (795 + 26 * ·))
def hpOK (h : Nat) : Bool := decide (31 < h ∧ h < 1000) && (List.range 18).all (fun j => tgT 5 (h + j) == hpT.getD j (0, 0)) && ([0, 4, 9, 16] : List Nat).all (fun j => (List.range (hpT.getD j (0, 0)).2).all (fun k => (decide (j = 16 ∧ k = 1) || rfT (h + j) k == hrT h j k)))
set_option maxRecDepth 100000 in
theorem hps_ok : hpsL.all hpOK = true := by decide +kernel
def SHP (M : Mem) : Prop := cnM M = 1021 ∧ (∀ a, a ≤ 1021 → tgM M a = tgT 5 a) ∧ (∀ a k, a ≤ 1021 → k < rkT a → a ≠ 791 ∨ k < 3 → grM M a k = rfT a k) ∧ ∀ a, 5000 < a → a ≤ 5005 → tgM M a = (100, (oaM a).length) ∧ ∀ j, j < (oaM a).length → giM M a j = (oaM a).getD j 0
section SH
variable {M M' : Mem} {a n k h : Nat}
theorem sh_tg (H : SHP M) (ha : a ≤ 1021) : tgM M a = tgT 5 a := H.2.1 a ha
theorem sh_own (H : SHP M) (h0 : 0 < a) (ha : a ≤ 1021) : ownM M a = true := by
  unfold ownM
  rw [H.1]
  exact decide_eq_true ⟨h0, ha⟩
theorem sh_ob {t : Nat} (H : SHP M) (h0 : 0 < a) (ha : a ≤ 1021) (e : tgT 5 a = (t, n)) : obM M a t n = true := by
  unfold obM
  rw [sh_own H h0 ha, sh_tg H ha, e]
  simp
theorem sh_ar (H : SHP M) (h0 : 0 < a) (ha : a ≤ 1021) (e : tgT 5 a = (100, n)) (hn : n < 2147483648) : arS M a n := ⟨sh_own H h0 ha, (sh_tg H ha).trans e, hn⟩
theorem sh_gr {r : Nat} (H : SHP M) (ha : a ≤ 1021) (hk : k < rkT a) (hx : a ≠ 791 ∨ k < 3) (e : rfT a k = r) : grM M a k = r := (H.2.2.1 a k ha hk hx).trans e
theorem HS_of (H : SHP M) (hm : h ∈ hpsL) : HS M h := by
  have h1 := List.all_eq_true.mp hps_ok h hm
  unfold hpOK at h1
  rw [Bool.and_eq_true, Bool.and_eq_true] at h1
  obtain ⟨⟨hb, ht⟩, hr⟩ := h1
  have hb := of_decide_eq_true hb
  have tg : ∀ j, j < 18 → tgT 5 (h + j) = hpT.getD j (0, 0) := fun j hj => eq_of_beq (List.all_eq_true.mp ht j (List.mem_range.mpr hj))
  have gr : ∀ j k, j ∈ ([0, 4, 9, 16] : List Nat) → k < (hpT.getD j (0, 0)).2 → ¬ (j = 16 ∧ k = 1) → rfT (h + j) k = hrT h j k := fun j k hj hk hne => by
    have := List.all_eq_true.mp (List.all_eq_true.mp hr j hj) k (List.mem_range.mpr hk)
    rw [Bool.or_eq_true] at this
    rcases this with w | w
    · exact absurd (of_decide_eq_true w) hne
    · exact eq_of_beq w
  have rk : ∀ j, j ∈ ([0, 4, 9, 16] : List Nat) → rkT (h + j) = (hpT.getD j (0, 0)).2 := fun j hj => by
    unfold rkT
    have hj18 : j < 18 := by
      simp at hj
      omega
    rw [tg j hj18]
    simp at hj
    rcases hj with rfl | rfl | rfl | rfl <;> rfl
  have G : ∀ j k, j ∈ ([0, 4, 9, 16] : List Nat) → k < (hpT.getD j (0, 0)).2 → ¬ (j = 16 ∧ k = 1) → h + j ≠ 791 → grM M (h + j) k = hrT h j k := fun j k hj hk hne hx => by
    have hj18 : j < 18 := by
      simp at hj
      omega
    exact sh_gr H (by omega) (by rw [rk j hj]; exact hk) (Or.inl hx) (gr j k hj hk hne)
  have hx : ∀ j, j ∈ ([0, 4, 9, 16] : List Nat) → h + j ≠ 791 := fun j hj e => by
    have hj18 : j < 18 := by
      simp at hj
      omega
    have := tg j hj18
    rw [e] at this
    simp at hj
    rcases hj with rfl | rfl | rfl | rfl <;> exact absurd this (by decide)
  have m0 : 0 ∈ ([0, 4, 9, 16] : List Nat) := by decide
  have m4 : 4 ∈ ([0, 4, 9, 16] : List Nat) := by decide
  have m9 : 9 ∈ ([0, 4, 9, 16] : List Nat) := by decide
  have m16 : 16 ∈ ([0, 4, 9, 16] : List Nat) := by decide
  have G0 : ∀ k, k < 9 → grM M h k = hrT h 0 k := fun k hk => G 0 k m0 hk (by omega) (hx 0 m0)
  have G4 : ∀ k, k < 4 → grM M (h + 4) k = hrT h 4 k := fun k hk => G 4 k m4 hk (by omega) (hx 4 m4)
  have G9 : ∀ k, k < 4 → grM M (h + 9) k = hrT h 9 k := fun k hk => G 9 k m9 hk (by omega) (hx 9 m9)
  have ar : ∀ j n, j < 18 → hpT.getD j (0, 0) = (100, n) → n < 1000 → arS M (h + j) n := fun j n hj e hn => sh_ar H (by omega) (by omega) ((tg j hj).trans e) (by omega)
  have ob : ∀ j t n, j < 18 → hpT.getD j (0, 0) = (t, n) → obM M (h + j) t n = true := fun j t n hj e => sh_ob H (by omega) (by omega) ((tg j hj).trans e)
  refine ⟨hb, ob 0 1 9 (by omega) rfl, ⟨G0 0 (by omega), G0 1 (by omega), G0 2 (by omega), G0 3 (by omega), G0 4 (by omega), G0 5 (by omega), G0 6 (by omega), G0 7 (by omega), G0 8 (by omega)⟩, ⟨ar 1 16 (by omega) rfl (by omega), ar 2 16 (by omega) rfl (by omega), ar 3 16 (by omega) rfl (by omega), ar 14 4 (by omega) rfl (by omega), ar 15 4 (by omega) rfl (by omega)⟩, ?_, ?_, ⟨ob 16 2 2 (by omega) rfl, G 16 0 m16 (by decide) (by omega) (hx 16 m16), ar 17 60 (by omega) rfl (by omega)⟩, sh_ob H (by omega) (by omega) rfl, sh_gr H (by omega) (by decide) (Or.inl (by omega)) rfl, sh_gr H (by omega) (by decide) (Or.inl (by omega)) rfl, sh_ar H (by omega) (by omega) rfl (by omega), sh_ar H (by omega) (by omega) rfl (by omega)⟩
  · exact ⟨⟨by omega, by omega⟩, ob 4 0 4 (by omega) rfl, ⟨G4 0 (by omega), G4 1 (by omega), G4 2 (by omega), G4 3 (by omega)⟩, ar 5 24 (by omega) rfl (by omega), ar 6 24 (by omega) rfl (by omega), ar 7 16 (by omega) rfl (by omega), ar 8 16 (by omega) rfl (by omega)⟩
  · exact ⟨⟨by omega, by omega⟩, ob 9 0 4 (by omega) rfl, ⟨G9 0 (by omega), G9 1 (by omega), G9 2 (by omega), G9 3 (by omega)⟩, ar 10 112 (by omega) rfl (by omega), ar 11 112 (by omega) rfl (by omega), ar 12 640 (by omega) rfl (by omega), ar 13 640 (by omega) rfl (by omega)⟩
theorem MS_of (H : SHP M) : MS M := by
  have g : ∀ k r, k < 34 → rfT 1003 k = r → grM M 1003 k = r := fun k r hk e => sh_gr H (by omega) (by rw [show rkT 1003 = 34 from by decide]; exact hk) (Or.inl (by omega)) e
  have ar : ∀ a n, 1003 < a → a ≤ 1021 → tgT 5 a = (100, n) → n < 2147483648 → arS M a n := fun a n h1 h2 e hn => sh_ar H (by omega) h2 e hn
  exact ⟨sh_ob H (by omega) (by omega) (by decide), ⟨g 1 1004 (by omega) (by decide), g 5 1005 (by omega) (by decide), g 6 1006 (by omega) (by decide), g 8 1007 (by omega) (by decide), g 9 1008 (by omega) (by decide), g 11 1009 (by omega) (by decide), g 12 1010 (by omega) (by decide), g 15 1011 (by omega) (by decide), g 16 1012 (by omega) (by decide), g 18 1013 (by omega) (by decide), g 19 1014 (by omega) (by decide), g 20 1015 (by omega) (by decide), g 22 1017 (by omega) (by decide), g 24 1018 (by omega) (by decide), g 27 1019 (by omega) (by decide), g 32 1020 (by omega) (by decide), g 21 1016 (by omega) (by decide)⟩, ⟨ar 1004 240 (by omega) (by omega) (by decide) (by omega), ar 1005 5 (by omega) (by omega) (by decide) (by omega), ar 1006 6 (by omega) (by omega) (by decide) (by omega), ar 1007 5 (by omega) (by omega) (by decide) (by omega), ar 1008 6 (by omega) (by omega) (by decide) (by omega), ar 1009 360 (by omega) (by omega) (by decide) (by omega), ar 1010 5 (by omega) (by omega) (by decide) (by omega), ar 1011 3893 (by omega) (by omega) (by decide) (by omega), ar 1012 4 (by omega) (by omega) (by decide) (by omega), ar 1013 48 (by omega) (by omega) (by decide) (by omega), ar 1014 48 (by omega) (by omega) (by decide) (by omega), ar 1015 48 (by omega) (by omega) (by decide) (by omega), ar 1017 2 (by omega) (by omega) (by decide) (by omega), ar 1018 155720 (by omega) (by omega) (by decide) (by omega), ar 1019 48256 (by omega) (by omega) (by decide) (by omega), ar 1020 3893 (by omega) (by omega) (by decide) (by omega)⟩, sh_own H (by omega) (by omega), (sh_tg H (by omega)).trans (by decide)⟩
theorem SHP_2 (H : SHP M) (e : M'.2 = M.2) (ho : ∀ a, 5000 < a → a ≤ 5005 → giM M' a = giM M a) : SHP M' := by
  refine ⟨?_, ?_, ?_, fun a h1 h2 => ?_⟩
  · unfold cnM; rw [e]; exact H.1
  · rw [tgM_2 e]; exact H.2.1
  · rw [grM_2 e]; exact H.2.2.1
  · rw [tgM_2 e, ho a h1 h2]; exact H.2.2.2 a h1 h2
end SH
