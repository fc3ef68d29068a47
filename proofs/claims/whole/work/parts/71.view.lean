/-! THE REFERENCE: what its state tells -/
def la (l : Nat) : Nat := if l < 48 then 166 * (l / 3) + 3 + 41 * (l % 3) else 3064 + 10 * (l - 48)
def cpl (l : Nat) : Nat := if l < 48 then 40 else 9
def qa (q : Nat) : Nat := 2656 + 17 * q
theorem la_3 {p w : Nat} (hp : p < 16) (hw : w < 3) : la (3 * p + w) = 166 * p + 3 + 41 * w := by
  unfold la
  rw [if_pos (by omega), show (3 * p + w) / 3 = p by omega, show (3 * p + w) % 3 = w by omega]
theorem la_b {p t : Nat} (hp : p < 16) : la (48 + 16 * t + p) = 3064 + 10 * (16 * t + p) := by
  unfold la
  rw [if_neg (by omega)]
  omega
theorem la_rg {l : Nat} (hl : l < 112) : (la l + cpl l < 2656 ∧ 166 * (l / 3) + 3 ≤ la l ∧ la l + cpl l ≤ 166 * (l / 3) + 125) ∨ (3064 ≤ la l ∧ la l + cpl l < 3704) := by
  unfold la cpl
  by_cases h : l < 48
  · rw [if_pos h, if_pos h]; omega
  · rw [if_neg h, if_neg h]; omega
theorem la_dj {l k : Nat} (hl : l < 112) (hk : k < 112) (hne : l ≠ k) : la l + cpl l < la k ∨ la k + cpl k < la l := by
  unfold la cpl
  by_cases h : l < 48
  · rw [if_pos h, if_pos h]
    by_cases h2 : k < 48
    · rw [if_pos h2, if_pos h2]
      rcases Nat.lt_trichotomy (l / 3) (k / 3) with h3 | h3 | h3
      · omega
      · omega
      · omega
    · rw [if_neg h2, if_neg h2]; omega
  · rw [if_neg h, if_neg h]
    by_cases h2 : k < 48
    · rw [if_pos h2, if_pos h2]; omega
    · rw [if_neg h2, if_neg h2]; omega
def LgR (N : Nat → Int32) (g : List (Nat × Nat × Nat)) : Prop := N 3712 = nI g.length ∧ ∀ i (h : i < g.length), N (3713 + 3 * (g.length - 1 - i)) = nI (g[i]'h).1 ∧ N (3713 + 3 * (g.length - 1 - i) + 1) = nI (g[i]'h).2.1 ∧ N (3713 + 3 * (g.length - 1 - i) + 2) = nI (g[i]'h).2.2
theorem LgR_congr {N N' : Nat → Int32} {g : List (Nat × Nat × Nat)} (h : LgR N g) (e : ∀ i, 3712 ≤ i → N' i = N i) : LgR N' g := by
  refine ⟨(e _ (Nat.le_refl _)).trans h.1, fun i hi => ?_⟩
  rw [e _ (by omega), e _ (by omega), e _ (by omega)]
  exact h.2 i hi
/-- the state of the reference tells an arena -/
def RW (N : Nat → Int32) (S : HSt) : Prop := (∀ p, p < 16 → N (166 * p) = nI (kd S p) ∧ N (166 * p + 1) = nI (ow S p) ∧ N (166 * p + 2) = nI (cl S p) ∧ ∀ b, b < 40 → N (166 * p + 126 + b) = nI (hd S p b)) ∧ (∀ l, l < 112 → Rw N (la l) (bl S l)) ∧ (∀ q, q < 24 → Rw N (qa q) (qu S q)) ∧ (∀ t, t < 4 → N (3704 + t) = nI (lv S t) ∧ N (3708 + t) = nI (gt S t)) ∧ LgR N (lg S)
def Wd (S : HSt) : Prop := (∀ l, l < 112 → (bl S l).length ≤ cpl l) ∧ (∀ q, q < 24 → (qu S q).length ≤ 16) ∧ (lg S).length ≤ 60
section RV
variable {N N' : Nat → Int32} {ρ : Rul} {β : Nat} {S : HSt} {p t b l q v : Nat}
theorem Wd_of (hR : RuOK ρ) (V : Inv ρ β S) : Wd S := by
  refine ⟨fun l hl => ?_, fun q hq => qlen V hq, V.2.2.2.2.2.1⟩
  unfold cpl
  by_cases h : l < 48
  · rw [if_pos h]; exact bl_len hR V hl
  · rw [if_neg h]
    have h2 := (V.2.2.2.1 ((l - 48) / 16) ((l - 48) % 16) (by omega) (by omega)).1
    rw [show 48 + 16 * ((l - 48) / 16) + (l - 48) % 16 = l by omega] at h2
    exact h2
theorem RW_rows {bl' : Nat → List Nat} (W : Wd S) (h : RW N S) (cs : List Nat) (hcs : ∀ l ∈ cs, l < 112) (hN : ∀ i, (∀ l ∈ cs, i < la l ∨ la l + cpl l < i) → N' i = N i) (hr : ∀ l ∈ cs, Rw N' (la l) (bl' l)) (ho : ∀ l, l < 112 → l ∉ cs → bl' l = bl S l) : RW N' (wbl S bl') := by
  obtain ⟨h1, h2, h3, h4, h5⟩ := h
  have out : ∀ i, ((∃ p, i = 166 * p ∨ i = 166 * p + 1 ∨ i = 166 * p + 2 ∨ (166 * p + 126 ≤ i ∧ i < 166 * p + 166)) ∧ i < 2656) ∨ (2656 ≤ i ∧ i < 3064) ∨ 3704 ≤ i → N' i = N i := by
    intro i hi
    refine hN i (fun l hl => ?_)
    have := la_rg (hcs l hl)
    rcases hi with ⟨⟨p, hp⟩, hp2⟩ | hi | hi
    · omega
    · omega
    · omega
  refine ⟨fun p hp => ?_, fun l hl => ?_, fun q hq => ?_, fun t ht => ?_, ?_⟩
  · obtain ⟨a1, a2, a3, a4⟩ := h1 p hp
    rw [out _ (Or.inl ⟨⟨p, by omega⟩, by omega⟩), out _ (Or.inl ⟨⟨p, by omega⟩, by omega⟩), out _ (Or.inl ⟨⟨p, by omega⟩, by omega⟩)]
    refine ⟨a1, a2, a3, fun b hb => ?_⟩
    rw [out _ (Or.inl ⟨⟨p, by omega⟩, by omega⟩)]
    exact a4 b hb
  · show Rw N' (la l) (bl' l)
    by_cases hm : l ∈ cs
    · exact hr l hm
    · rw [ho l hl hm]
      refine Rw_congr (h2 l hl) (fun i i1 i2 => hN i (fun k hk => ?_))
      have := la_dj hl (hcs k hk) (fun e => hm (e ▸ hk))
      have := W.1 l hl
      omega
  · refine Rw_congr (h3 q hq) (fun i i1 i2 => out i (Or.inr (Or.inl ?_)))
    have : (qu S q).length ≤ 16 := W.2.1 q hq
    have i2 : i ≤ qa q + (qu S q).length := i2
    unfold qa at i1 i2
    omega
  · rw [out _ (Or.inr (Or.inr (by omega))), out _ (Or.inr (Or.inr (by omega)))]
    exact h4 t ht
  · exact LgR_congr h5 (fun i hi => out i (Or.inr (Or.inr (by omega))))
theorem RW_qu {ys : List Nat} (W : Wd S) (h : RW N S) (hq : q < 24) (hN : ∀ i, i < qa q ∨ qa q + 16 < i → N' i = N i) (hr : Rw N' (qa q) ys) : RW N' (wqu S (ud (qu S) q ys)) := by
  obtain ⟨h1, h2, h3, h4, h5⟩ := h
  have out : ∀ i, i < 2656 ∨ 3064 ≤ i → N' i = N i := by
    intro i hi
    refine hN i ?_
    unfold qa
    omega
  refine ⟨fun p hp => ?_, fun l hl => ?_, fun q' hq' => ?_, fun t ht => ?_, ?_⟩
  · obtain ⟨a1, a2, a3, a4⟩ := h1 p hp
    rw [out _ (by omega), out _ (by omega), out _ (by omega)]
    refine ⟨a1, a2, a3, fun b hb => ?_⟩
    rw [out _ (by omega)]
    exact a4 b hb
  · refine Rw_congr (h2 l hl) (fun i i1 i2 => out i ?_)
    have := la_rg hl
    have : (bl S l).length ≤ cpl l := W.1 l hl
    have i2 : i ≤ la l + (bl S l).length := i2
    omega
  · show Rw N' (qa q') (ud (qu S) q ys q')
    by_cases e : q' = q
    · subst e; rw [ud_s]; exact hr
    · rw [ud_n _ _ e]
      refine Rw_congr (h3 q' hq') (fun i i1 i2 => hN i ?_)
      have := W.2.1 q' hq'
      unfold qa at i1 i2 ⊢
      omega
  · rw [out _ (by omega), out _ (by omega)]
    exact h4 t ht
  · exact LgR_congr h5 (fun i hi => out i (by omega))
theorem RW_kd (W : Wd S) (h : RW N S) (hp : p < 16) : RW (ud N (166 * p) (nI v)) (wkd S (ud (kd S) p v)) := by
  obtain ⟨h1, h2, h3, h4, h5⟩ := h
  refine ⟨fun x hx => ?_, fun l hl => ?_, fun q hq => ?_, fun y hy => ?_, ?_⟩
  · obtain ⟨a1, a2, a3, a4⟩ := h1 x hx
    show _ = nI (ud (kd S) p v x) ∧ _ = nI (ow S x) ∧ _ = nI (cl S x) ∧ ∀ b', b' < 40 → _ = nI (hd S x b')
    by_cases e : x = p
    · subst e
      rw [ud_s (kd S)]
      refine ⟨ud_e (by omega), (ud_n _ _ (by omega)).trans a2, (ud_n _ _ (by omega)).trans a3, fun b' hb' => ?_⟩
      · rw [ud_n _ _ (by omega)]; exact a4 b' hb'
    · rw [ud_n (kd S) _ e]
      refine ⟨(ud_n _ _ (by omega)).trans a1, (ud_n _ _ (by omega)).trans a2, (ud_n _ _ (by omega)).trans a3, fun b' hb' => ?_⟩
      · rw [ud_n _ _ (by omega)]; exact a4 b' hb'
  · refine Rw_congr (h2 l hl) (fun i i1 i2 => ud_n _ _ ?_)
    have := la_rg hl
    have : (bl S l).length ≤ cpl l := W.1 l hl
    have i2 : i ≤ la l + (bl S l).length := i2
    omega
  · refine Rw_congr (h3 q hq) (fun i i1 i2 => ud_n _ _ ?_)
    have : (qu S q).length ≤ 16 := W.2.1 q hq
    have i2 : i ≤ qa q + (qu S q).length := i2
    unfold qa at i1 i2
    omega
  · obtain ⟨a1, a2⟩ := h4 y hy
    rw [ud_n _ _ (by omega), ud_n _ _ (by omega)]
    exact ⟨a1, a2⟩
  · exact LgR_congr h5 (fun i hi => ud_n _ _ (by omega))
theorem RW_ow (W : Wd S) (h : RW N S) (hp : p < 16) : RW (ud N (166 * p + 1) (nI v)) (wow S (ud (ow S) p v)) := by
  obtain ⟨h1, h2, h3, h4, h5⟩ := h
  refine ⟨fun x hx => ?_, fun l hl => ?_, fun q hq => ?_, fun y hy => ?_, ?_⟩
  · obtain ⟨a1, a2, a3, a4⟩ := h1 x hx
    show _ = nI (kd S x) ∧ _ = nI (ud (ow S) p v x) ∧ _ = nI (cl S x) ∧ ∀ b', b' < 40 → _ = nI (hd S x b')
    by_cases e : x = p
    · subst e
      rw [ud_s (ow S)]
      refine ⟨(ud_n _ _ (by omega)).trans a1, ud_e (by omega), (ud_n _ _ (by omega)).trans a3, fun b' hb' => ?_⟩
      · rw [ud_n _ _ (by omega)]; exact a4 b' hb'
    · rw [ud_n (ow S) _ e]
      refine ⟨(ud_n _ _ (by omega)).trans a1, (ud_n _ _ (by omega)).trans a2, (ud_n _ _ (by omega)).trans a3, fun b' hb' => ?_⟩
      · rw [ud_n _ _ (by omega)]; exact a4 b' hb'
  · refine Rw_congr (h2 l hl) (fun i i1 i2 => ud_n _ _ ?_)
    have := la_rg hl
    have : (bl S l).length ≤ cpl l := W.1 l hl
    have i2 : i ≤ la l + (bl S l).length := i2
    omega
  · refine Rw_congr (h3 q hq) (fun i i1 i2 => ud_n _ _ ?_)
    have : (qu S q).length ≤ 16 := W.2.1 q hq
    have i2 : i ≤ qa q + (qu S q).length := i2
    unfold qa at i1 i2
    omega
  · obtain ⟨a1, a2⟩ := h4 y hy
    rw [ud_n _ _ (by omega), ud_n _ _ (by omega)]
    exact ⟨a1, a2⟩
  · exact LgR_congr h5 (fun i hi => ud_n _ _ (by omega))
theorem RW_cl (W : Wd S) (h : RW N S) (hp : p < 16) : RW (ud N (166 * p + 2) (nI v)) (wcl S (ud (cl S) p v)) := by
  obtain ⟨h1, h2, h3, h4, h5⟩ := h
  refine ⟨fun x hx => ?_, fun l hl => ?_, fun q hq => ?_, fun y hy => ?_, ?_⟩
  · obtain ⟨a1, a2, a3, a4⟩ := h1 x hx
    show _ = nI (kd S x) ∧ _ = nI (ow S x) ∧ _ = nI (ud (cl S) p v x) ∧ ∀ b', b' < 40 → _ = nI (hd S x b')
    by_cases e : x = p
    · subst e
      rw [ud_s (cl S)]
      refine ⟨(ud_n _ _ (by omega)).trans a1, (ud_n _ _ (by omega)).trans a2, ud_e (by omega), fun b' hb' => ?_⟩
      · rw [ud_n _ _ (by omega)]; exact a4 b' hb'
    · rw [ud_n (cl S) _ e]
      refine ⟨(ud_n _ _ (by omega)).trans a1, (ud_n _ _ (by omega)).trans a2, (ud_n _ _ (by omega)).trans a3, fun b' hb' => ?_⟩
      · rw [ud_n _ _ (by omega)]; exact a4 b' hb'
  · refine Rw_congr (h2 l hl) (fun i i1 i2 => ud_n _ _ ?_)
    have := la_rg hl
    have : (bl S l).length ≤ cpl l := W.1 l hl
    have i2 : i ≤ la l + (bl S l).length := i2
    omega
  · refine Rw_congr (h3 q hq) (fun i i1 i2 => ud_n _ _ ?_)
    have : (qu S q).length ≤ 16 := W.2.1 q hq
    have i2 : i ≤ qa q + (qu S q).length := i2
    unfold qa at i1 i2
    omega
  · obtain ⟨a1, a2⟩ := h4 y hy
    rw [ud_n _ _ (by omega), ud_n _ _ (by omega)]
    exact ⟨a1, a2⟩
  · exact LgR_congr h5 (fun i hi => ud_n _ _ (by omega))
theorem RW_hd (W : Wd S) (h : RW N S) (hp : p < 16) (hb : b < 40) : RW (ud N (166 * p + 126 + b) (nI v)) (oHd p b v S) := by
  obtain ⟨h1, h2, h3, h4, h5⟩ := h
  refine ⟨fun x hx => ?_, fun l hl => ?_, fun q hq => ?_, fun y hy => ?_, ?_⟩
  · obtain ⟨a1, a2, a3, a4⟩ := h1 x hx
    rw [ud_n _ _ (by omega), ud_n _ _ (by omega), ud_n _ _ (by omega)]
    refine ⟨a1, a2, a3, fun b' hb' => ?_⟩
    show _ = nI (ud (hd S) p (ud (hd S p) b v) x b')
    by_cases e : x = p
    · subst e
      rw [ud_s]
      by_cases e2 : b' = b
      · subst e2; rw [ud_s, ud_s]
      · rw [ud_n _ _ (by omega), ud_n _ _ e2]; exact a4 b' hb'
    · rw [ud_n _ _ (by omega), ud_n _ _ e]; exact a4 b' hb'
  · refine Rw_congr (h2 l hl) (fun i i1 i2 => ud_n _ _ ?_)
    have := la_rg hl
    have : (bl S l).length ≤ cpl l := W.1 l hl
    have i2 : i ≤ la l + (bl S l).length := i2
    omega
  · refine Rw_congr (h3 q hq) (fun i i1 i2 => ud_n _ _ ?_)
    have : (qu S q).length ≤ 16 := W.2.1 q hq
    have i2 : i ≤ qa q + (qu S q).length := i2
    unfold qa at i1 i2
    omega
  · obtain ⟨a1, a2⟩ := h4 y hy
    rw [ud_n _ _ (by omega), ud_n _ _ (by omega)]
    exact ⟨a1, a2⟩
  · exact LgR_congr h5 (fun i hi => ud_n _ _ (by omega))
theorem RW_lv (W : Wd S) (h : RW N S) (ht : t < 4) : RW (ud N (3704 + t) (nI v)) (wlv S (ud (lv S) t v)) := by
  obtain ⟨h1, h2, h3, h4, h5⟩ := h
  refine ⟨fun x hx => ?_, fun l hl => ?_, fun q hq => ?_, fun y hy => ?_, ?_⟩
  · obtain ⟨a1, a2, a3, a4⟩ := h1 x hx
    rw [ud_n _ _ (by omega), ud_n _ _ (by omega), ud_n _ _ (by omega)]
    refine ⟨a1, a2, a3, fun b' hb' => ?_⟩
    rw [ud_n _ _ (by omega)]
    exact a4 b' hb'
  · refine Rw_congr (h2 l hl) (fun i i1 i2 => ud_n _ _ ?_)
    have := la_rg hl
    have : (bl S l).length ≤ cpl l := W.1 l hl
    have i2 : i ≤ la l + (bl S l).length := i2
    omega
  · refine Rw_congr (h3 q hq) (fun i i1 i2 => ud_n _ _ ?_)
    have : (qu S q).length ≤ 16 := W.2.1 q hq
    have i2 : i ≤ qa q + (qu S q).length := i2
    unfold qa at i1 i2
    omega
  · obtain ⟨a1, a2⟩ := h4 y hy
    show _ = nI (ud (lv S) t v y) ∧ _ = nI (gt S y)
    by_cases e : y = t
    · subst e
      rw [ud_s (lv S)]
      exact ⟨ud_e rfl, (ud_n _ _ (by omega)).trans a2⟩
    · rw [ud_n (lv S) _ e]
      exact ⟨(ud_n _ _ (by omega)).trans a1, (ud_n _ _ (by omega)).trans a2⟩
  · exact LgR_congr h5 (fun i hi => ud_n _ _ (by omega))
theorem RW_gt (W : Wd S) (h : RW N S) (ht : t < 4) : RW (ud N (3708 + t) (nI v)) (wgt S (ud (gt S) t v)) := by
  obtain ⟨h1, h2, h3, h4, h5⟩ := h
  refine ⟨fun x hx => ?_, fun l hl => ?_, fun q hq => ?_, fun y hy => ?_, ?_⟩
  · obtain ⟨a1, a2, a3, a4⟩ := h1 x hx
    rw [ud_n _ _ (by omega), ud_n _ _ (by omega), ud_n _ _ (by omega)]
    refine ⟨a1, a2, a3, fun b' hb' => ?_⟩
    rw [ud_n _ _ (by omega)]
    exact a4 b' hb'
  · refine Rw_congr (h2 l hl) (fun i i1 i2 => ud_n _ _ ?_)
    have := la_rg hl
    have : (bl S l).length ≤ cpl l := W.1 l hl
    have i2 : i ≤ la l + (bl S l).length := i2
    omega
  · refine Rw_congr (h3 q hq) (fun i i1 i2 => ud_n _ _ ?_)
    have : (qu S q).length ≤ 16 := W.2.1 q hq
    have i2 : i ≤ qa q + (qu S q).length := i2
    unfold qa at i1 i2
    omega
  · obtain ⟨a1, a2⟩ := h4 y hy
    show _ = nI (lv S y) ∧ _ = nI (ud (gt S) t v y)
    by_cases e : y = t
    · subst e
      rw [ud_s (gt S)]
      exact ⟨(ud_n _ _ (by omega)).trans a1, ud_e rfl⟩
    · rw [ud_n (gt S) _ e]
      exact ⟨(ud_n _ _ (by omega)).trans a1, (ud_n _ _ (by omega)).trans a2⟩
  · exact LgR_congr h5 (fun i hi => ud_n _ _ (by omega))
end RV
/-- the rules as the reference has them -/
def RuM (M : Mem) (ρ : Rul) : Prop := giM M 1007 0 = nI (rT ρ) ∧ giM M 1007 1 = nI (rP ρ) ∧ giM M 1007 2 = nI (rU ρ) ∧ giM M 1007 3 = nI (rB ρ) ∧ giM M 1007 4 = nI (rH ρ) ∧ giM M 1003 10 = nI (rK ρ) ∧ ∀ k, k < rK ρ → giM M 1008 k = nI (rZ ρ k)
def RF (M M' : Mem) : Prop := M'.2 = M.2 ∧ (∀ a, a ≠ 1011 → a ≠ 1003 → giM M' a = giM M a) ∧ ∀ k, k ≠ 17 → giM M' 1003 k = giM M 1003 k
def RC (M : Mem) (ρ : Rul) (S : HSt) : Prop := MS M ∧ RuM M ρ ∧ RuOK ρ ∧ RW (giM M 1011) S
theorem RF_refl (M : Mem) : RF M M := ⟨rfl, fun _ _ _ => rfl, fun _ _ => rfl⟩
theorem RF_tr {M M1 M2 : Mem} (h : RF M M1) (g : RF M1 M2) : RF M M2 := ⟨g.1.trans h.1, fun a h1 h2 => (g.2.1 a h1 h2).trans (h.2.1 a h1 h2), fun k hk => (g.2.2 k hk).trans (h.2.2 k hk)⟩
theorem RF_sa (M : Mem) (N : Nat → Int32) : RF M (saM M 1011 N) := ⟨rfl, fun _ h1 _ => gi_san h1 _, fun k _ => by rw [gi_san (by omega)]⟩
theorem RF_17 (M : Mem) (x : Int32) : RF M (siM M 1003 17 x) := ⟨rfl, fun _ _ h2 => giM_un h2, fun k hk => by rw [giM_ud, ud_n _ _ hk]⟩
section RM
variable {M M' : Mem} {ρ : Rul} {β : Nat} {S : HSt} {p t b l q c w : Nat}
theorem rm_T (R : RuM M ρ) : giM M 1007 0 = nI (rT ρ) := R.1
theorem rm_P (R : RuM M ρ) : giM M 1007 1 = nI (rP ρ) := R.2.1
theorem rm_U (R : RuM M ρ) : giM M 1007 2 = nI (rU ρ) := R.2.2.1
theorem rm_B (R : RuM M ρ) : giM M 1007 3 = nI (rB ρ) := R.2.2.2.1
theorem rm_H (R : RuM M ρ) : giM M 1007 4 = nI (rH ρ) := R.2.2.2.2.1
theorem rm_K (R : RuM M ρ) : giM M 1003 10 = nI (rK ρ) := R.2.2.2.2.2.1
theorem rm_Z (R : RuM M ρ) {k : Nat} (h : k < rK ρ) : giM M 1008 k = nI (rZ ρ k) := R.2.2.2.2.2.2 k h
theorem RuM_RF (R : RuM M ρ) (F : RF M M') : RuM M' ρ := by
  unfold RuM
  rw [F.2.1 1007 (by omega) (by omega), F.2.1 1008 (by omega) (by omega), F.2.2 10 (by omega)]
  exact R
theorem RC_mk {S' : HSt} (C : RC M ρ S) (F : RF M M') (h : RW (giM M' 1011) S') : RC M' ρ S' := ⟨MS_2 F.1 C.1, RuM_RF C.2.1 F, C.2.2.1, h⟩
theorem RC_sa {S' : HSt} {N : Nat → Int32} (C : RC M ρ S) (h : RW N S') : RC (saM M 1011 N) ρ S' := RC_mk C (RF_sa M N) (by rw [gi_sas]; exact h)
theorem rv_k (C : RC M ρ S) (hp : p < 16) : giM M 1011 (166 * p) = nI (kd S p) := (C.2.2.2.1 p hp).1
theorem rv_o (C : RC M ρ S) (hp : p < 16) : giM M 1011 (166 * p + 1) = nI (ow S p) := (C.2.2.2.1 p hp).2.1
theorem rv_c (C : RC M ρ S) (hp : p < 16) : giM M 1011 (166 * p + 2) = nI (cl S p) := (C.2.2.2.1 p hp).2.2.1
theorem rv_h (C : RC M ρ S) (hp : p < 16) (hb : b < 40) : giM M 1011 (166 * p + 126 + b) = nI (hd S p b) := (C.2.2.2.1 p hp).2.2.2 b hb
theorem rv_l (C : RC M ρ S) (hp : p < 16) (hw : w < 3) : Rw (giM M 1011) (166 * p + 3 + 41 * w) (bl S (3 * p + w)) := by
  have := C.2.2.2.2.1 (3 * p + w) (by omega)
  rw [la_3 hp hw] at this
  exact this
theorem rv_0 (C : RC M ρ S) (hp : p < 16) : Rw (giM M 1011) (166 * p + 3) (bl S (3 * p)) := rv_l (w := 0) C hp (by omega)
theorem rv_1 (C : RC M ρ S) (hp : p < 16) : Rw (giM M 1011) (166 * p + 3 + 41) (bl S (3 * p + 1)) := rv_l (w := 1) C hp (by omega)
theorem rv_2 (C : RC M ρ S) (hp : p < 16) : Rw (giM M 1011) (166 * p + 3 + 82) (bl S (3 * p + 2)) := rv_l (w := 2) C hp (by omega)
theorem rv_b (C : RC M ρ S) (ht : t < 4) (hp : p < 16) : Rw (giM M 1011) (3064 + 10 * (16 * t + p)) (bl S (48 + 16 * t + p)) := by
  have := C.2.2.2.2.1 (48 + 16 * t + p) (by omega)
  rw [la_b hp] at this
  exact this
theorem rv_q (C : RC M ρ S) (hq : q < 24) : Rw (giM M 1011) (2656 + 17 * q) (qu S q) := C.2.2.2.2.2.1 q hq
theorem rv_lv (C : RC M ρ S) (ht : t < 4) : giM M 1011 (3704 + t) = nI (lv S t) := (C.2.2.2.2.2.2.1 t ht).1
theorem rv_gt (C : RC M ρ S) (ht : t < 4) : giM M 1011 (3708 + t) = nI (gt S t) := (C.2.2.2.2.2.2.1 t ht).2
theorem rv_lg (C : RC M ρ S) : LgR (giM M 1011) (lg S) := C.2.2.2.2.2.2.2
/-! questions -/
theorem mListed (C : RC M ρ S) (hp : p < 16) : fM_listedOf 1003 (nI p) M = some (nI (lst S p), M) := by
  have H := C.1
  have e0 := (rv_0 C hp).1
  have e1 := (rv_1 C hp).1
  have e2 := (rv_2 C hp).1
  unfold lst
  simp (disch := omega) only [fM_listedOf, fM_listAt, gd1, bs1, ↓reduceIte, d_nz, d_nn, or_true, true_or, or_false, false_or, decide_true, Sum.elim_inl, Sum.elim_inr, ↓l_m1, l_0, l_1, l_2, l_3, l_4, l_5, l_6, l_7, l_8, l_9, l_10, l_16, l_17, l_18, l_20, l_23, l_24, l_30, l_31, l_32, l_39, l_40, l_41, l_48, l_57, l_58, l_59, l_60, l_63, l_90, l_97, l_98, l_99, l_100, l_102, l_103, l_104, l_107, l_109, l_112, l_115, l_116, l_117, l_120, l_122, l_126, l_166, l_180, l_240, l_255, l_640, l_999, l_2656, l_3064, l_3704, l_3708, l_3712, l_3713, l_3893, l_155720, l_1000000, n_ltT, n_ltF, n_leT, n_leF, n_eqT, n_eqF, n_eqm, n_eqm', n_mltn, n_mlen, n_nltm, n_nlem, n_mltm, n_mlem, n_add, n_mul, n_sub, n_subm, n_cl, n_ofNat, n_div, n_mod, obM_si, rdI_si, wrI_si, lnI_si, grM_si', tgM_si', obM_sa, rdI_sa, wrI_sa, lnI_sa, grM_sa', tgM_sa', ms_ob H, ms_g1 H, ms_g5 H, ms_g6 H, ms_g8 H, ms_g9 H, ms_g11 H, ms_g12 H, ms_g15 H, ms_g16 H, ms_g18 H, ms_g19 H, ms_g20 H, ms_g22 H, ms_g24 H, ms_g27 H, ms_g32 H, ms_g21 H, ms_t1 H, ms_r1 H, ms_w1 H, ms_l1 H, ms_t5 H, ms_r5 H, ms_w5 H, ms_l5 H, ms_t6 H, ms_r6 H, ms_w6 H, ms_l6 H, ms_t8 H, ms_r8 H, ms_w8 H, ms_l8 H, ms_t9 H, ms_r9 H, ms_w9 H, ms_l9 H, ms_t11 H, ms_r11 H, ms_w11 H, ms_l11 H, ms_t12 H, ms_r12 H, ms_w12 H, ms_l12 H, ms_t15 H, ms_r15 H, ms_w15 H, ms_l15 H, ms_t16 H, ms_r16 H, ms_w16 H, ms_l16 H, ms_t18 H, ms_r18 H, ms_w18 H, ms_l18 H, ms_t19 H, ms_r19 H, ms_w19 H, ms_l19 H, ms_t20 H, ms_r20 H, ms_w20 H, ms_l20 H, ms_t22 H, ms_r22 H, ms_w22 H, ms_l22 H, ms_t24 H, ms_r24 H, ms_w24 H, ms_l24 H, ms_t27 H, ms_r27 H, ms_w27 H, ms_l27 H, ms_t32 H, ms_r32 H, ms_w32 H, ms_l32 H, ms_b H, Nat.mul_zero, Nat.mul_one, Nat.reduceMul, Nat.add_zero, e0, e1, e2]
theorem mBlocks (C : RC M ρ S) (V : Inv ρ β S) (hp : p < 16) : fM_blocksOf 1003 (nI p) M = some (nI (cut ρ S p), M) := by
  have H := C.1
  have R := C.2.1
  have hR := ru_b C.2.2.1
  have hk := rv_k C hp
  have hc := rv_c C hp
  unfold cut
  have hk3 := (V.1 p hp).1
  by_cases h0 : kd S p = 0
  · rw [if_pos h0]
    rw [h0] at hk
    simp (disch := omega) only [fM_blocksOf, fM_of, BM_blocksOf_31, gd1, bs1, ↓reduceIte, d_nz, d_nn, or_true, true_or, or_false, false_or, decide_true, Sum.elim_inl, Sum.elim_inr, ↓l_m1, l_0, l_1, l_2, l_3, l_4, l_5, l_6, l_7, l_8, l_9, l_10, l_16, l_17, l_18, l_20, l_23, l_24, l_30, l_31, l_32, l_39, l_40, l_41, l_48, l_57, l_58, l_59, l_60, l_63, l_90, l_97, l_98, l_99, l_100, l_102, l_103, l_104, l_107, l_109, l_112, l_115, l_116, l_117, l_120, l_122, l_126, l_166, l_180, l_240, l_255, l_640, l_999, l_2656, l_3064, l_3704, l_3708, l_3712, l_3713, l_3893, l_155720, l_1000000, n_ltT, n_ltF, n_leT, n_leF, n_eqT, n_eqF, n_eqm, n_eqm', n_mltn, n_mlen, n_nltm, n_nlem, n_mltm, n_mlem, n_add, n_mul, n_sub, n_subm, n_cl, n_ofNat, n_div, n_mod, obM_si, rdI_si, wrI_si, lnI_si, grM_si', tgM_si', obM_sa, rdI_sa, wrI_sa, lnI_sa, grM_sa', tgM_sa', ms_ob H, ms_g1 H, ms_g5 H, ms_g6 H, ms_g8 H, ms_g9 H, ms_g11 H, ms_g12 H, ms_g15 H, ms_g16 H, ms_g18 H, ms_g19 H, ms_g20 H, ms_g22 H, ms_g24 H, ms_g27 H, ms_g32 H, ms_g21 H, ms_t1 H, ms_r1 H, ms_w1 H, ms_l1 H, ms_t5 H, ms_r5 H, ms_w5 H, ms_l5 H, ms_t6 H, ms_r6 H, ms_w6 H, ms_l6 H, ms_t8 H, ms_r8 H, ms_w8 H, ms_l8 H, ms_t9 H, ms_r9 H, ms_w9 H, ms_l9 H, ms_t11 H, ms_r11 H, ms_w11 H, ms_l11 H, ms_t12 H, ms_r12 H, ms_w12 H, ms_l12 H, ms_t15 H, ms_r15 H, ms_w15 H, ms_l15 H, ms_t16 H, ms_r16 H, ms_w16 H, ms_l16 H, ms_t18 H, ms_r18 H, ms_w18 H, ms_l18 H, ms_t19 H, ms_r19 H, ms_w19 H, ms_l19 H, ms_t20 H, ms_r20 H, ms_w20 H, ms_l20 H, ms_t22 H, ms_r22 H, ms_w22 H, ms_l22 H, ms_t24 H, ms_r24 H, ms_w24 H, ms_l24 H, ms_t27 H, ms_r27 H, ms_w27 H, ms_l27 H, ms_t32 H, ms_r32 H, ms_w32 H, ms_l32 H, ms_b H, Nat.add_zero, hk]
  · rw [if_neg h0]
    have hcl := ((V.1 p hp).2.1 h0).2
    have hz := rm_Z R hcl
    have hz2 := C.2.2.1.2.1 _ hcl
    simp (disch := omega) only [fM_blocksOf, fM_of, BM_blocksOf_31, not_false_eq_true, gd1, bs1, ↓reduceIte, d_nz, d_nn, or_true, true_or, or_false, false_or, decide_true, Sum.elim_inl, Sum.elim_inr, ↓l_m1, l_0, l_1, l_2, l_3, l_4, l_5, l_6, l_7, l_8, l_9, l_10, l_16, l_17, l_18, l_20, l_23, l_24, l_30, l_31, l_32, l_39, l_40, l_41, l_48, l_57, l_58, l_59, l_60, l_63, l_90, l_97, l_98, l_99, l_100, l_102, l_103, l_104, l_107, l_109, l_112, l_115, l_116, l_117, l_120, l_122, l_126, l_166, l_180, l_240, l_255, l_640, l_999, l_2656, l_3064, l_3704, l_3708, l_3712, l_3713, l_3893, l_155720, l_1000000, n_ltT, n_ltF, n_leT, n_leF, n_eqT, n_eqF, n_eqm, n_eqm', n_mltn, n_mlen, n_nltm, n_nlem, n_mltm, n_mlem, n_add, n_mul, n_sub, n_subm, n_cl, n_ofNat, n_div, n_mod, obM_si, rdI_si, wrI_si, lnI_si, grM_si', tgM_si', obM_sa, rdI_sa, wrI_sa, lnI_sa, grM_sa', tgM_sa', ms_ob H, ms_g1 H, ms_g5 H, ms_g6 H, ms_g8 H, ms_g9 H, ms_g11 H, ms_g12 H, ms_g15 H, ms_g16 H, ms_g18 H, ms_g19 H, ms_g20 H, ms_g22 H, ms_g24 H, ms_g27 H, ms_g32 H, ms_g21 H, ms_t1 H, ms_r1 H, ms_w1 H, ms_l1 H, ms_t5 H, ms_r5 H, ms_w5 H, ms_l5 H, ms_t6 H, ms_r6 H, ms_w6 H, ms_l6 H, ms_t8 H, ms_r8 H, ms_w8 H, ms_l8 H, ms_t9 H, ms_r9 H, ms_w9 H, ms_l9 H, ms_t11 H, ms_r11 H, ms_w11 H, ms_l11 H, ms_t12 H, ms_r12 H, ms_w12 H, ms_l12 H, ms_t15 H, ms_r15 H, ms_w15 H, ms_l15 H, ms_t16 H, ms_r16 H, ms_w16 H, ms_l16 H, ms_t18 H, ms_r18 H, ms_w18 H, ms_l18 H, ms_t19 H, ms_r19 H, ms_w19 H, ms_l19 H, ms_t20 H, ms_r20 H, ms_w20 H, ms_l20 H, ms_t22 H, ms_r22 H, ms_w22 H, ms_l22 H, ms_t24 H, ms_r24 H, ms_w24 H, ms_l24 H, ms_t27 H, ms_r27 H, ms_w27 H, ms_l27 H, ms_t32 H, ms_r32 H, ms_w32 H, ms_l32 H, ms_b H, rm_T R, rm_P R, rm_U R, rm_B R, rm_H R, rm_K R, Nat.add_zero, hk, hc, hz]
theorem mUsed (C : RC M ρ S) (V : Inv ρ β S) (hp : p < 16) : fM_usedOf 1003 (nI p) M = some (nI (usd ρ S p), M) := by
  have H := C.1
  have h1 := mBlocks C V hp
  have h2 := mListed C hp
  have h3 := lst_le V.2.1 hp
  unfold usd
  simp (disch := omega) only [fM_usedOf, gd1, bs1, ↓reduceIte, d_nz, d_nn, or_true, true_or, or_false, false_or, decide_true, Sum.elim_inl, Sum.elim_inr, ↓l_m1, l_0, l_1, l_2, l_3, l_4, l_5, l_6, l_7, l_8, l_9, l_10, l_16, l_17, l_18, l_20, l_23, l_24, l_30, l_31, l_32, l_39, l_40, l_41, l_48, l_57, l_58, l_59, l_60, l_63, l_90, l_97, l_98, l_99, l_100, l_102, l_103, l_104, l_107, l_109, l_112, l_115, l_116, l_117, l_120, l_122, l_126, l_166, l_180, l_240, l_255, l_640, l_999, l_2656, l_3064, l_3704, l_3708, l_3712, l_3713, l_3893, l_155720, l_1000000, n_ltT, n_ltF, n_leT, n_leF, n_eqT, n_eqF, n_eqm, n_eqm', n_mltn, n_mlen, n_nltm, n_nlem, n_mltm, n_mlem, n_add, n_mul, n_sub, n_subm, n_cl, n_ofNat, n_div, n_mod, obM_si, rdI_si, wrI_si, lnI_si, grM_si', tgM_si', obM_sa, rdI_sa, wrI_sa, lnI_sa, grM_sa', tgM_sa', ms_ob H, ms_g1 H, ms_g5 H, ms_g6 H, ms_g8 H, ms_g9 H, ms_g11 H, ms_g12 H, ms_g15 H, ms_g16 H, ms_g18 H, ms_g19 H, ms_g20 H, ms_g22 H, ms_g24 H, ms_g27 H, ms_g32 H, ms_g21 H, ms_t1 H, ms_r1 H, ms_w1 H, ms_l1 H, ms_t5 H, ms_r5 H, ms_w5 H, ms_l5 H, ms_t6 H, ms_r6 H, ms_w6 H, ms_l6 H, ms_t8 H, ms_r8 H, ms_w8 H, ms_l8 H, ms_t9 H, ms_r9 H, ms_w9 H, ms_l9 H, ms_t11 H, ms_r11 H, ms_w11 H, ms_l11 H, ms_t12 H, ms_r12 H, ms_w12 H, ms_l12 H, ms_t15 H, ms_r15 H, ms_w15 H, ms_l15 H, ms_t16 H, ms_r16 H, ms_w16 H, ms_l16 H, ms_t18 H, ms_r18 H, ms_w18 H, ms_l18 H, ms_t19 H, ms_r19 H, ms_w19 H, ms_l19 H, ms_t20 H, ms_r20 H, ms_w20 H, ms_l20 H, ms_t22 H, ms_r22 H, ms_w22 H, ms_l22 H, ms_t24 H, ms_r24 H, ms_w24 H, ms_l24 H, ms_t27 H, ms_r27 H, ms_w27 H, ms_l27 H, ms_t32 H, ms_r32 H, ms_w32 H, ms_l32 H, ms_b H, h1, h2]
theorem mOwned (C : RC M ρ S) (V : Inv ρ β S) (hp : p < 16) : fM_isOwned 1003 (nI p) M = some (nI (if kd S p = 1 ∨ kd S p = 2 then 1 else 0), M) := by
  have H := C.1
  have hk := rv_k C hp
  have hk3 := (V.1 p hp).1
  rcases (show kd S p = 0 ∨ kd S p = 1 ∨ kd S p = 2 ∨ kd S p = 3 by omega) with e | e | e | e
  · rw [if_neg (by omega)]; rw [e] at hk
    simp (disch := omega) only [fM_isOwned, fM_of, BM_isOwned_20, BM_isOwned_25, gd1, bs1, ↓reduceIte, d_nz, d_nn, or_true, true_or, or_false, false_or, decide_true, Sum.elim_inl, Sum.elim_inr, ↓l_m1, l_0, l_1, l_2, l_3, l_4, l_5, l_6, l_7, l_8, l_9, l_10, l_16, l_17, l_18, l_20, l_23, l_24, l_30, l_31, l_32, l_39, l_40, l_41, l_48, l_57, l_58, l_59, l_60, l_63, l_90, l_97, l_98, l_99, l_100, l_102, l_103, l_104, l_107, l_109, l_112, l_115, l_116, l_117, l_120, l_122, l_126, l_166, l_180, l_240, l_255, l_640, l_999, l_2656, l_3064, l_3704, l_3708, l_3712, l_3713, l_3893, l_155720, l_1000000, n_ltT, n_ltF, n_leT, n_leF, n_eqT, n_eqF, n_eqm, n_eqm', n_mltn, n_mlen, n_nltm, n_nlem, n_mltm, n_mlem, n_add, n_mul, n_sub, n_subm, n_cl, n_ofNat, n_div, n_mod, obM_si, rdI_si, wrI_si, lnI_si, grM_si', tgM_si', obM_sa, rdI_sa, wrI_sa, lnI_sa, grM_sa', tgM_sa', ms_ob H, ms_g1 H, ms_g5 H, ms_g6 H, ms_g8 H, ms_g9 H, ms_g11 H, ms_g12 H, ms_g15 H, ms_g16 H, ms_g18 H, ms_g19 H, ms_g20 H, ms_g22 H, ms_g24 H, ms_g27 H, ms_g32 H, ms_g21 H, ms_t1 H, ms_r1 H, ms_w1 H, ms_l1 H, ms_t5 H, ms_r5 H, ms_w5 H, ms_l5 H, ms_t6 H, ms_r6 H, ms_w6 H, ms_l6 H, ms_t8 H, ms_r8 H, ms_w8 H, ms_l8 H, ms_t9 H, ms_r9 H, ms_w9 H, ms_l9 H, ms_t11 H, ms_r11 H, ms_w11 H, ms_l11 H, ms_t12 H, ms_r12 H, ms_w12 H, ms_l12 H, ms_t15 H, ms_r15 H, ms_w15 H, ms_l15 H, ms_t16 H, ms_r16 H, ms_w16 H, ms_l16 H, ms_t18 H, ms_r18 H, ms_w18 H, ms_l18 H, ms_t19 H, ms_r19 H, ms_w19 H, ms_l19 H, ms_t20 H, ms_r20 H, ms_w20 H, ms_l20 H, ms_t22 H, ms_r22 H, ms_w22 H, ms_l22 H, ms_t24 H, ms_r24 H, ms_w24 H, ms_l24 H, ms_t27 H, ms_r27 H, ms_w27 H, ms_l27 H, ms_t32 H, ms_r32 H, ms_w32 H, ms_l32 H, ms_b H, Nat.add_zero, hk]
  · rw [if_pos (by omega)]; rw [e] at hk
    simp (disch := omega) only [fM_isOwned, fM_of, BM_isOwned_20, BM_isOwned_25, gd1, bs1, ↓reduceIte, d_nz, d_nn, or_true, true_or, or_false, false_or, decide_true, Sum.elim_inl, Sum.elim_inr, ↓l_m1, l_0, l_1, l_2, l_3, l_4, l_5, l_6, l_7, l_8, l_9, l_10, l_16, l_17, l_18, l_20, l_23, l_24, l_30, l_31, l_32, l_39, l_40, l_41, l_48, l_57, l_58, l_59, l_60, l_63, l_90, l_97, l_98, l_99, l_100, l_102, l_103, l_104, l_107, l_109, l_112, l_115, l_116, l_117, l_120, l_122, l_126, l_166, l_180, l_240, l_255, l_640, l_999, l_2656, l_3064, l_3704, l_3708, l_3712, l_3713, l_3893, l_155720, l_1000000, n_ltT, n_ltF, n_leT, n_leF, n_eqT, n_eqF, n_eqm, n_eqm', n_mltn, n_mlen, n_nltm, n_nlem, n_mltm, n_mlem, n_add, n_mul, n_sub, n_subm, n_cl, n_ofNat, n_div, n_mod, obM_si, rdI_si, wrI_si, lnI_si, grM_si', tgM_si', obM_sa, rdI_sa, wrI_sa, lnI_sa, grM_sa', tgM_sa', ms_ob H, ms_g1 H, ms_g5 H, ms_g6 H, ms_g8 H, ms_g9 H, ms_g11 H, ms_g12 H, ms_g15 H, ms_g16 H, ms_g18 H, ms_g19 H, ms_g20 H, ms_g22 H, ms_g24 H, ms_g27 H, ms_g32 H, ms_g21 H, ms_t1 H, ms_r1 H, ms_w1 H, ms_l1 H, ms_t5 H, ms_r5 H, ms_w5 H, ms_l5 H, ms_t6 H, ms_r6 H, ms_w6 H, ms_l6 H, ms_t8 H, ms_r8 H, ms_w8 H, ms_l8 H, ms_t9 H, ms_r9 H, ms_w9 H, ms_l9 H, ms_t11 H, ms_r11 H, ms_w11 H, ms_l11 H, ms_t12 H, ms_r12 H, ms_w12 H, ms_l12 H, ms_t15 H, ms_r15 H, ms_w15 H, ms_l15 H, ms_t16 H, ms_r16 H, ms_w16 H, ms_l16 H, ms_t18 H, ms_r18 H, ms_w18 H, ms_l18 H, ms_t19 H, ms_r19 H, ms_w19 H, ms_l19 H, ms_t20 H, ms_r20 H, ms_w20 H, ms_l20 H, ms_t22 H, ms_r22 H, ms_w22 H, ms_l22 H, ms_t24 H, ms_r24 H, ms_w24 H, ms_l24 H, ms_t27 H, ms_r27 H, ms_w27 H, ms_l27 H, ms_t32 H, ms_r32 H, ms_w32 H, ms_l32 H, ms_b H, Nat.add_zero, hk]
  · rw [if_pos (by omega)]; rw [e] at hk
    simp (disch := omega) only [fM_isOwned, fM_of, BM_isOwned_20, BM_isOwned_25, gd1, bs1, ↓reduceIte, d_nz, d_nn, or_true, true_or, or_false, false_or, decide_true, Sum.elim_inl, Sum.elim_inr, ↓l_m1, l_0, l_1, l_2, l_3, l_4, l_5, l_6, l_7, l_8, l_9, l_10, l_16, l_17, l_18, l_20, l_23, l_24, l_30, l_31, l_32, l_39, l_40, l_41, l_48, l_57, l_58, l_59, l_60, l_63, l_90, l_97, l_98, l_99, l_100, l_102, l_103, l_104, l_107, l_109, l_112, l_115, l_116, l_117, l_120, l_122, l_126, l_166, l_180, l_240, l_255, l_640, l_999, l_2656, l_3064, l_3704, l_3708, l_3712, l_3713, l_3893, l_155720, l_1000000, n_ltT, n_ltF, n_leT, n_leF, n_eqT, n_eqF, n_eqm, n_eqm', n_mltn, n_mlen, n_nltm, n_nlem, n_mltm, n_mlem, n_add, n_mul, n_sub, n_subm, n_cl, n_ofNat, n_div, n_mod, obM_si, rdI_si, wrI_si, lnI_si, grM_si', tgM_si', obM_sa, rdI_sa, wrI_sa, lnI_sa, grM_sa', tgM_sa', ms_ob H, ms_g1 H, ms_g5 H, ms_g6 H, ms_g8 H, ms_g9 H, ms_g11 H, ms_g12 H, ms_g15 H, ms_g16 H, ms_g18 H, ms_g19 H, ms_g20 H, ms_g22 H, ms_g24 H, ms_g27 H, ms_g32 H, ms_g21 H, ms_t1 H, ms_r1 H, ms_w1 H, ms_l1 H, ms_t5 H, ms_r5 H, ms_w5 H, ms_l5 H, ms_t6 H, ms_r6 H, ms_w6 H, ms_l6 H, ms_t8 H, ms_r8 H, ms_w8 H, ms_l8 H, ms_t9 H, ms_r9 H, ms_w9 H, ms_l9 H, ms_t11 H, ms_r11 H, ms_w11 H, ms_l11 H, ms_t12 H, ms_r12 H, ms_w12 H, ms_l12 H, ms_t15 H, ms_r15 H, ms_w15 H, ms_l15 H, ms_t16 H, ms_r16 H, ms_w16 H, ms_l16 H, ms_t18 H, ms_r18 H, ms_w18 H, ms_l18 H, ms_t19 H, ms_r19 H, ms_w19 H, ms_l19 H, ms_t20 H, ms_r20 H, ms_w20 H, ms_l20 H, ms_t22 H, ms_r22 H, ms_w22 H, ms_l22 H, ms_t24 H, ms_r24 H, ms_w24 H, ms_l24 H, ms_t27 H, ms_r27 H, ms_w27 H, ms_l27 H, ms_t32 H, ms_r32 H, ms_w32 H, ms_l32 H, ms_b H, Nat.add_zero, hk]
  · rw [if_neg (by omega)]; rw [e] at hk
    simp (disch := omega) only [fM_isOwned, fM_of, BM_isOwned_20, BM_isOwned_25, gd1, bs1, ↓reduceIte, d_nz, d_nn, or_true, true_or, or_false, false_or, decide_true, Sum.elim_inl, Sum.elim_inr, ↓l_m1, l_0, l_1, l_2, l_3, l_4, l_5, l_6, l_7, l_8, l_9, l_10, l_16, l_17, l_18, l_20, l_23, l_24, l_30, l_31, l_32, l_39, l_40, l_41, l_48, l_57, l_58, l_59, l_60, l_63, l_90, l_97, l_98, l_99, l_100, l_102, l_103, l_104, l_107, l_109, l_112, l_115, l_116, l_117, l_120, l_122, l_126, l_166, l_180, l_240, l_255, l_640, l_999, l_2656, l_3064, l_3704, l_3708, l_3712, l_3713, l_3893, l_155720, l_1000000, n_ltT, n_ltF, n_leT, n_leF, n_eqT, n_eqF, n_eqm, n_eqm', n_mltn, n_mlen, n_nltm, n_nlem, n_mltm, n_mlem, n_add, n_mul, n_sub, n_subm, n_cl, n_ofNat, n_div, n_mod, obM_si, rdI_si, wrI_si, lnI_si, grM_si', tgM_si', obM_sa, rdI_sa, wrI_sa, lnI_sa, grM_sa', tgM_sa', ms_ob H, ms_g1 H, ms_g5 H, ms_g6 H, ms_g8 H, ms_g9 H, ms_g11 H, ms_g12 H, ms_g15 H, ms_g16 H, ms_g18 H, ms_g19 H, ms_g20 H, ms_g22 H, ms_g24 H, ms_g27 H, ms_g32 H, ms_g21 H, ms_t1 H, ms_r1 H, ms_w1 H, ms_l1 H, ms_t5 H, ms_r5 H, ms_w5 H, ms_l5 H, ms_t6 H, ms_r6 H, ms_w6 H, ms_l6 H, ms_t8 H, ms_r8 H, ms_w8 H, ms_l8 H, ms_t9 H, ms_r9 H, ms_w9 H, ms_l9 H, ms_t11 H, ms_r11 H, ms_w11 H, ms_l11 H, ms_t12 H, ms_r12 H, ms_w12 H, ms_l12 H, ms_t15 H, ms_r15 H, ms_w15 H, ms_l15 H, ms_t16 H, ms_r16 H, ms_w16 H, ms_l16 H, ms_t18 H, ms_r18 H, ms_w18 H, ms_l18 H, ms_t19 H, ms_r19 H, ms_w19 H, ms_l19 H, ms_t20 H, ms_r20 H, ms_w20 H, ms_l20 H, ms_t22 H, ms_r22 H, ms_w22 H, ms_l22 H, ms_t24 H, ms_r24 H, ms_w24 H, ms_l24 H, ms_t27 H, ms_r27 H, ms_w27 H, ms_l27 H, ms_t32 H, ms_r32 H, ms_w32 H, ms_l32 H, ms_b H, Nat.add_zero, hk]
theorem mIsOf (C : RC M ρ S) (V : Inv ρ β S) (hp : p < 16) (ht : t < rT ρ) : fM_isOf 1003 (nI p) (nI t) M = some (nI (if (kd S p = 1 ∨ kd S p = 2) ∧ ow S p = t then 1 else 0), M) := by
  have H := C.1
  have hR := ru_b C.2.2.1
  have h1 := mOwned C V hp
  have ho := rv_o C hp
  by_cases h2 : kd S p = 1 ∨ kd S p = 2
  · rw [if_pos h2] at h1
    have := (V.1 p hp).2.2.1 h2
    by_cases h3 : ow S p = t
    · rw [if_pos ⟨h2, h3⟩]; rw [h3] at ho
      simp (disch := omega) only [fM_isOf, fM_of, BM_isOf_22, BM_isOf_23, gd1, bs1, ↓reduceIte, d_nz, d_nn, or_true, true_or, or_false, false_or, decide_true, Sum.elim_inl, Sum.elim_inr, ↓l_m1, l_0, l_1, l_2, l_3, l_4, l_5, l_6, l_7, l_8, l_9, l_10, l_16, l_17, l_18, l_20, l_23, l_24, l_30, l_31, l_32, l_39, l_40, l_41, l_48, l_57, l_58, l_59, l_60, l_63, l_90, l_97, l_98, l_99, l_100, l_102, l_103, l_104, l_107, l_109, l_112, l_115, l_116, l_117, l_120, l_122, l_126, l_166, l_180, l_240, l_255, l_640, l_999, l_2656, l_3064, l_3704, l_3708, l_3712, l_3713, l_3893, l_155720, l_1000000, n_ltT, n_ltF, n_leT, n_leF, n_eqT, n_eqF, n_eqm, n_eqm', n_mltn, n_mlen, n_nltm, n_nlem, n_mltm, n_mlem, n_add, n_mul, n_sub, n_subm, n_cl, n_ofNat, n_div, n_mod, obM_si, rdI_si, wrI_si, lnI_si, grM_si', tgM_si', obM_sa, rdI_sa, wrI_sa, lnI_sa, grM_sa', tgM_sa', ms_ob H, ms_g1 H, ms_g5 H, ms_g6 H, ms_g8 H, ms_g9 H, ms_g11 H, ms_g12 H, ms_g15 H, ms_g16 H, ms_g18 H, ms_g19 H, ms_g20 H, ms_g22 H, ms_g24 H, ms_g27 H, ms_g32 H, ms_g21 H, ms_t1 H, ms_r1 H, ms_w1 H, ms_l1 H, ms_t5 H, ms_r5 H, ms_w5 H, ms_l5 H, ms_t6 H, ms_r6 H, ms_w6 H, ms_l6 H, ms_t8 H, ms_r8 H, ms_w8 H, ms_l8 H, ms_t9 H, ms_r9 H, ms_w9 H, ms_l9 H, ms_t11 H, ms_r11 H, ms_w11 H, ms_l11 H, ms_t12 H, ms_r12 H, ms_w12 H, ms_l12 H, ms_t15 H, ms_r15 H, ms_w15 H, ms_l15 H, ms_t16 H, ms_r16 H, ms_w16 H, ms_l16 H, ms_t18 H, ms_r18 H, ms_w18 H, ms_l18 H, ms_t19 H, ms_r19 H, ms_w19 H, ms_l19 H, ms_t20 H, ms_r20 H, ms_w20 H, ms_l20 H, ms_t22 H, ms_r22 H, ms_w22 H, ms_l22 H, ms_t24 H, ms_r24 H, ms_w24 H, ms_l24 H, ms_t27 H, ms_r27 H, ms_w27 H, ms_l27 H, ms_t32 H, ms_r32 H, ms_w32 H, ms_l32 H, ms_b H, h1, ho]
    · rw [if_neg (fun q => h3 q.2)]
      simp (disch := omega) only [fM_isOf, fM_of, BM_isOf_22, BM_isOf_23, gd1, bs1, ↓reduceIte, d_nz, d_nn, or_true, true_or, or_false, false_or, decide_true, Sum.elim_inl, Sum.elim_inr, ↓l_m1, l_0, l_1, l_2, l_3, l_4, l_5, l_6, l_7, l_8, l_9, l_10, l_16, l_17, l_18, l_20, l_23, l_24, l_30, l_31, l_32, l_39, l_40, l_41, l_48, l_57, l_58, l_59, l_60, l_63, l_90, l_97, l_98, l_99, l_100, l_102, l_103, l_104, l_107, l_109, l_112, l_115, l_116, l_117, l_120, l_122, l_126, l_166, l_180, l_240, l_255, l_640, l_999, l_2656, l_3064, l_3704, l_3708, l_3712, l_3713, l_3893, l_155720, l_1000000, n_ltT, n_ltF, n_leT, n_leF, n_eqT, n_eqF, n_eqm, n_eqm', n_mltn, n_mlen, n_nltm, n_nlem, n_mltm, n_mlem, n_add, n_mul, n_sub, n_subm, n_cl, n_ofNat, n_div, n_mod, obM_si, rdI_si, wrI_si, lnI_si, grM_si', tgM_si', obM_sa, rdI_sa, wrI_sa, lnI_sa, grM_sa', tgM_sa', ms_ob H, ms_g1 H, ms_g5 H, ms_g6 H, ms_g8 H, ms_g9 H, ms_g11 H, ms_g12 H, ms_g15 H, ms_g16 H, ms_g18 H, ms_g19 H, ms_g20 H, ms_g22 H, ms_g24 H, ms_g27 H, ms_g32 H, ms_g21 H, ms_t1 H, ms_r1 H, ms_w1 H, ms_l1 H, ms_t5 H, ms_r5 H, ms_w5 H, ms_l5 H, ms_t6 H, ms_r6 H, ms_w6 H, ms_l6 H, ms_t8 H, ms_r8 H, ms_w8 H, ms_l8 H, ms_t9 H, ms_r9 H, ms_w9 H, ms_l9 H, ms_t11 H, ms_r11 H, ms_w11 H, ms_l11 H, ms_t12 H, ms_r12 H, ms_w12 H, ms_l12 H, ms_t15 H, ms_r15 H, ms_w15 H, ms_l15 H, ms_t16 H, ms_r16 H, ms_w16 H, ms_l16 H, ms_t18 H, ms_r18 H, ms_w18 H, ms_l18 H, ms_t19 H, ms_r19 H, ms_w19 H, ms_l19 H, ms_t20 H, ms_r20 H, ms_w20 H, ms_l20 H, ms_t22 H, ms_r22 H, ms_w22 H, ms_l22 H, ms_t24 H, ms_r24 H, ms_w24 H, ms_l24 H, ms_t27 H, ms_r27 H, ms_w27 H, ms_l27 H, ms_t32 H, ms_r32 H, ms_w32 H, ms_l32 H, ms_b H, h1, ho]
  · rw [if_neg h2] at h1
    rw [if_neg (fun q => h2 q.1)]
    simp (disch := omega) only [fM_isOf, fM_of, BM_isOf_22, BM_isOf_23, gd1, bs1, ↓reduceIte, d_nz, d_nn, or_true, true_or, or_false, false_or, decide_true, Sum.elim_inl, Sum.elim_inr, ↓l_m1, l_0, l_1, l_2, l_3, l_4, l_5, l_6, l_7, l_8, l_9, l_10, l_16, l_17, l_18, l_20, l_23, l_24, l_30, l_31, l_32, l_39, l_40, l_41, l_48, l_57, l_58, l_59, l_60, l_63, l_90, l_97, l_98, l_99, l_100, l_102, l_103, l_104, l_107, l_109, l_112, l_115, l_116, l_117, l_120, l_122, l_126, l_166, l_180, l_240, l_255, l_640, l_999, l_2656, l_3064, l_3704, l_3708, l_3712, l_3713, l_3893, l_155720, l_1000000, n_ltT, n_ltF, n_leT, n_leF, n_eqT, n_eqF, n_eqm, n_eqm', n_mltn, n_mlen, n_nltm, n_nlem, n_mltm, n_mlem, n_add, n_mul, n_sub, n_subm, n_cl, n_ofNat, n_div, n_mod, obM_si, rdI_si, wrI_si, lnI_si, grM_si', tgM_si', obM_sa, rdI_sa, wrI_sa, lnI_sa, grM_sa', tgM_sa', ms_ob H, ms_g1 H, ms_g5 H, ms_g6 H, ms_g8 H, ms_g9 H, ms_g11 H, ms_g12 H, ms_g15 H, ms_g16 H, ms_g18 H, ms_g19 H, ms_g20 H, ms_g22 H, ms_g24 H, ms_g27 H, ms_g32 H, ms_g21 H, ms_t1 H, ms_r1 H, ms_w1 H, ms_l1 H, ms_t5 H, ms_r5 H, ms_w5 H, ms_l5 H, ms_t6 H, ms_r6 H, ms_w6 H, ms_l6 H, ms_t8 H, ms_r8 H, ms_w8 H, ms_l8 H, ms_t9 H, ms_r9 H, ms_w9 H, ms_l9 H, ms_t11 H, ms_r11 H, ms_w11 H, ms_l11 H, ms_t12 H, ms_r12 H, ms_w12 H, ms_l12 H, ms_t15 H, ms_r15 H, ms_w15 H, ms_l15 H, ms_t16 H, ms_r16 H, ms_w16 H, ms_l16 H, ms_t18 H, ms_r18 H, ms_w18 H, ms_l18 H, ms_t19 H, ms_r19 H, ms_w19 H, ms_l19 H, ms_t20 H, ms_r20 H, ms_w20 H, ms_l20 H, ms_t22 H, ms_r22 H, ms_w22 H, ms_l22 H, ms_t24 H, ms_r24 H, ms_w24 H, ms_l24 H, ms_t27 H, ms_r27 H, ms_w27 H, ms_l27 H, ms_t32 H, ms_r32 H, ms_w32 H, ms_l32 H, ms_b H, h1]
theorem mOwnQ (C : RC M ρ S) (hp : p < 16) : fM_ownQueue 1003 (nI p) M = some (nI (2656 + 17 * (6 * ow S p + cl S p)), M) := by
  have H := C.1
  have ho := rv_o C hp
  have hc := rv_c C hp
  simp (disch := omega) only [fM_ownQueue, fM_of, fM_queueAt, gd1, bs1, ↓reduceIte, d_nz, d_nn, or_true, true_or, or_false, false_or, decide_true, Sum.elim_inl, Sum.elim_inr, ↓l_m1, l_0, l_1, l_2, l_3, l_4, l_5, l_6, l_7, l_8, l_9, l_10, l_16, l_17, l_18, l_20, l_23, l_24, l_30, l_31, l_32, l_39, l_40, l_41, l_48, l_57, l_58, l_59, l_60, l_63, l_90, l_97, l_98, l_99, l_100, l_102, l_103, l_104, l_107, l_109, l_112, l_115, l_116, l_117, l_120, l_122, l_126, l_166, l_180, l_240, l_255, l_640, l_999, l_2656, l_3064, l_3704, l_3708, l_3712, l_3713, l_3893, l_155720, l_1000000, n_ltT, n_ltF, n_leT, n_leF, n_eqT, n_eqF, n_eqm, n_eqm', n_mltn, n_mlen, n_nltm, n_nlem, n_mltm, n_mlem, n_add, n_mul, n_sub, n_subm, n_cl, n_ofNat, n_div, n_mod, obM_si, rdI_si, wrI_si, lnI_si, grM_si', tgM_si', obM_sa, rdI_sa, wrI_sa, lnI_sa, grM_sa', tgM_sa', ms_ob H, ms_g1 H, ms_g5 H, ms_g6 H, ms_g8 H, ms_g9 H, ms_g11 H, ms_g12 H, ms_g15 H, ms_g16 H, ms_g18 H, ms_g19 H, ms_g20 H, ms_g22 H, ms_g24 H, ms_g27 H, ms_g32 H, ms_g21 H, ms_t1 H, ms_r1 H, ms_w1 H, ms_l1 H, ms_t5 H, ms_r5 H, ms_w5 H, ms_l5 H, ms_t6 H, ms_r6 H, ms_w6 H, ms_l6 H, ms_t8 H, ms_r8 H, ms_w8 H, ms_l8 H, ms_t9 H, ms_r9 H, ms_w9 H, ms_l9 H, ms_t11 H, ms_r11 H, ms_w11 H, ms_l11 H, ms_t12 H, ms_r12 H, ms_w12 H, ms_l12 H, ms_t15 H, ms_r15 H, ms_w15 H, ms_l15 H, ms_t16 H, ms_r16 H, ms_w16 H, ms_l16 H, ms_t18 H, ms_r18 H, ms_w18 H, ms_l18 H, ms_t19 H, ms_r19 H, ms_w19 H, ms_l19 H, ms_t20 H, ms_r20 H, ms_w20 H, ms_l20 H, ms_t22 H, ms_r22 H, ms_w22 H, ms_l22 H, ms_t24 H, ms_r24 H, ms_w24 H, ms_l24 H, ms_t27 H, ms_r27 H, ms_w27 H, ms_l27 H, ms_t32 H, ms_r32 H, ms_w32 H, ms_l32 H, ms_b H, ho, hc]
end RM
