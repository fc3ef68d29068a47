/-! SCRIPTS RUN: a step of the reference, all sorts -/
section MS3
variable {M M1 M2 : Mem} {ρ : Rul} {β n d sd sn i : Nat} {S : HSt} {g : Nat → GoT} {t : StT} {r : Bool} {v1 v2 vd v4 : Int32} {w : Nat}
def ST3 (M : Mem) (sn i w : Nat) (v1 v2 : Int32) : Prop := fM_stepOf 1003 (nI sn) (nI i) 1 M = some (v1, M) ∧ fM_stepOf 1003 (nI sn) (nI i) 2 M = some (v2, M) ∧ fM_stepOf 1003 (nI sn) (nI i) 0 M = some (nI w, M)
theorem can_0 (H : MS M) (s : ST3 M sn i 0 v1 v2) : fM_canStep 1003 (nI sn) (nI i) vd M = (fM_doesLive 1003 v1 M).bind fun q7 => if q7.1 = 0 then (BM_canStep_98 q7.2) else (gd (obM q7.2 1003 11 34) <| (fM_classFor 1003 v2 q7.2).bind fun q9 => if q9.1 = -1 then (BM_canStep_98 q9.2) else (gd (obM q9.2 1003 11 34) <| (fM_classFor 1003 v2 q9.2).bind fun q11 => gd (obM q11.2 1003 11 34) <| (fM_canGet 1003 v1 q11.1 q11.2).bind fun q13 => if q13.1 = 0 then (BM_canStep_98 q13.2) else (BM_canStep_99 1 q13.2))) := by
  unfold fM_canStep
  rw [ms_ob H, gd1n, s.1, bs1n, ms_ob H, gd1n, s.2.1, bs1n, ms_ob H, gd1n, s.2.2, bs1n, if_pos (show ((nI 0, M) : Int32 × Mem).1 = 0 from rfl), ms_ob H, gd1n]
theorem can_1 (H : MS M) (s : ST3 M sn i 1 v1 v2) : fM_canStep 1003 (nI sn) (nI i) vd M = (fM_doesLive 1003 v1 M).bind fun q15 => if q15.1 = 0 then (BM_canStep_139 q15.2) else (gd (obM q15.2 1003 11 34) <| gd (decide (grM q15.2 1003 22 ≠ 0)) <| gd (rdI q15.2 (grM q15.2 1003 22) vd) <| if (giM q15.2 (grM q15.2 1003 22) (Int32.toNatClampNeg vd)) ≤ v2 then (BM_canStep_139 q15.2) else (gd (decide (grM q15.2 1003 21 ≠ 0)) <| gd (wrT 101 q15.2 (grM q15.2 1003 21) ((24 * vd) + v2)) <| if (giM q15.2 (grM q15.2 1003 21) (Int32.toNatClampNeg ((24 * vd) + v2))) = 0 then (BM_canStep_139 q15.2) else (BM_canStep_140 1 q15.2))) := by
  unfold fM_canStep
  rw [ms_ob H, gd1n, s.1, bs1n, ms_ob H, gd1n, s.2.1, bs1n, ms_ob H, gd1n, s.2.2, bs1n, if_neg (show ¬ ((nI 1, M) : Int32 × Mem).1 = 0 from (show ¬ nI 1 = 0 by decide)), if_pos (show ((nI 1, M) : Int32 × Mem).1 = 1 from rfl), ms_ob H, gd1n]
theorem can_2 (H : MS M) (s : ST3 M sn i 2 v1 v2) : fM_canStep 1003 (nI sn) (nI i) vd M = (fM_isThread 1003 v1 M).bind fun q22 => gd (decide (q22.1 = 0 ∨ q22.1 = 1)) <| some (q22.1, q22.2) := by
  unfold fM_canStep
  rw [ms_ob H, gd1n, s.1, bs1n, ms_ob H, gd1n, s.2.1, bs1n, ms_ob H, gd1n, s.2.2, bs1n, if_neg (show ¬ ((nI 2, M) : Int32 × Mem).1 = 0 from (show ¬ nI 2 = 0 by decide)), if_neg (show ¬ ((nI 2, M) : Int32 × Mem).1 = 1 from (show ¬ nI 2 = 1 by decide)), if_pos (show ((nI 2, M) : Int32 × Mem).1 = 2 from rfl), ms_ob H, gd1n]
theorem can_34 (H : MS M) (hw : w = 3 ∨ w = 4) (s : ST3 M sn i w v1 v2) : fM_canStep 1003 (nI sn) (nI i) vd M = (fM_doesLive 1003 v1 M).bind fun q25 => gd (decide (q25.1 = 0 ∨ q25.1 = 1)) <| some (q25.1, q25.2) := by
  unfold fM_canStep
  rw [ms_ob H, gd1n, s.1, bs1n, ms_ob H, gd1n, s.2.1, bs1n, ms_ob H, gd1n, s.2.2, bs1n]
  rcases hw with rfl | rfl
  · rw [if_neg (show ¬ ((nI 3, M) : Int32 × Mem).1 = 0 from (show ¬ nI 3 = 0 by decide)), if_neg (show ¬ ((nI 3, M) : Int32 × Mem).1 = 1 from (show ¬ nI 3 = 1 by decide)), if_neg (show ¬ ((nI 3, M) : Int32 × Mem).1 = 2 from (show ¬ nI 3 = 2 by decide)), if_pos (show ((nI 3, M) : Int32 × Mem).1 = 3 from rfl), ms_ob H, gd1n]
  · rw [if_neg (show ¬ ((nI 4, M) : Int32 × Mem).1 = 0 from (show ¬ nI 4 = 0 by decide)), if_neg (show ¬ ((nI 4, M) : Int32 × Mem).1 = 1 from (show ¬ nI 4 = 1 by decide)), if_neg (show ¬ ((nI 4, M) : Int32 × Mem).1 = 2 from (show ¬ nI 4 = 2 by decide)), if_neg (show ¬ ((nI 4, M) : Int32 × Mem).1 = 3 from (show ¬ nI 4 = 3 by decide)), if_pos (show ((nI 4, M) : Int32 × Mem).1 = 4 from rfl), ms_ob H, gd1n]
theorem can_56 (H : MS M) (hw : w = 5 ∨ w = 6) (s : ST3 M sn i w v1 v2) : fM_canStep 1003 (nI sn) (nI i) vd M = some (nI 1, M) := by
  unfold fM_canStep
  rw [ms_ob H, gd1n, s.1, bs1n, ms_ob H, gd1n, s.2.1, bs1n, ms_ob H, gd1n, s.2.2, bs1n]
  rcases hw with rfl | rfl
  · rw [if_neg (show ¬ ((nI 5, M) : Int32 × Mem).1 = 0 from (show ¬ nI 5 = 0 by decide)), if_neg (show ¬ ((nI 5, M) : Int32 × Mem).1 = 1 from (show ¬ nI 5 = 1 by decide)), if_neg (show ¬ ((nI 5, M) : Int32 × Mem).1 = 2 from (show ¬ nI 5 = 2 by decide)), if_neg (show ¬ ((nI 5, M) : Int32 × Mem).1 = 3 from (show ¬ nI 5 = 3 by decide)), if_neg (show ¬ ((nI 5, M) : Int32 × Mem).1 = 4 from (show ¬ nI 5 = 4 by decide))]
    rfl
  · rw [if_neg (show ¬ ((nI 6, M) : Int32 × Mem).1 = 0 from (show ¬ nI 6 = 0 by decide)), if_neg (show ¬ ((nI 6, M) : Int32 × Mem).1 = 1 from (show ¬ nI 6 = 1 by decide)), if_neg (show ¬ ((nI 6, M) : Int32 × Mem).1 = 2 from (show ¬ nI 6 = 2 by decide)), if_neg (show ¬ ((nI 6, M) : Int32 × Mem).1 = 3 from (show ¬ nI 6 = 3 by decide)), if_neg (show ¬ ((nI 6, M) : Int32 × Mem).1 = 4 from (show ¬ nI 6 = 4 by decide))]
    rfl
theorem do_h (H : MS M) (s : ST3 M sn i w v1 v2) : fM_doStep 1003 (nI sn) (nI i) vd v4 M = if nI w = 0 then ((fM_stepGet 1003 v1 v2 vd v4 M).bind fun q7 => some q7) else if nI w = 1 then (gd (decide (grM M 1003 18 ≠ 0)) <| gd (rdI M (grM M 1003 18) ((24 * vd) + v2)) <| (fM_freeNow 1003 v1 (giM M (grM M 1003 18) (Int32.toNatClampNeg ((24 * vd) + v2))) M).bind fun q12 => gd (obM q12.2 1003 11 34) <| gd (decide (grM q12.2 1003 21 ≠ 0)) <| gd (wrT 101 q12.2 (grM q12.2 1003 21) ((24 * vd) + v2)) <| some (siM q12.2 (grM q12.2 1003 21) (Int32.toNatClampNeg ((24 * vd) + v2)) 0)) else if nI w = 2 then ((fM_turnNow 1003 v1 M).bind fun q16 => some q16) else if nI w = 3 then ((fM_tickNow 1003 v1 M).bind fun q18 => some q18) else if nI w = 4 then ((fM_sendNow 1003 v1 M).bind fun q20 => some q20.2) else if nI w = 5 then (some (siM M 1003 23 ((giM M 1003 23) + 1))) else ((fM_endScope 1003 M).bind fun q23 => some q23) := by
  unfold fM_doStep BM_doStep_158
  rw [ms_ob H, gd1n, s.1, bs1n, ms_ob H, gd1n, s.2.1, bs1n, ms_ob H, gd1n, s.2.2, bs1n]
  simp only [ms_ob H, gd1n]
theorem bd01 : decide ((1 : Int32) = 0 ∨ (1 : Int32) = 1) = true := by decide
theorem bd00 : decide ((0 : Int32) = 0 ∨ (0 : Int32) = 1) = true := by decide
end MS3
