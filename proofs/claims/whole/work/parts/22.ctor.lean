def yA_init : MethodName := ⟨"HomeFreed", "<init>", "()V"⟩
abbrev cA_init : ByteArray := prog_1_method_1_code
theorem my_A_init : MyM yA_init cA_init 2 none 0 := ⟨wd_1, wd_29, ⟨by decide +kernel, by decide +kernel, by decide +kernel⟩, by decide⟩
theorem mi_A_init : Cond.instanceMethod yA_init ∈ lw_tbl := wd_28
def yC_init : MethodName := ⟨"HomeFreed$Chains", "<init>", "(II)V"⟩
abbrev cC_init : ByteArray := prog_2_method_1_code
theorem my_C_init : MyM yC_init cC_init 3 none 2 := ⟨wd_7, wd_128, ⟨by decide +kernel, by decide +kernel, by decide +kernel⟩, by decide⟩
theorem mi_C_init : Cond.instanceMethod yC_init ∈ lw_tbl := wd_127
def yG_init : MethodName := ⟨"HomeFreed$Progress", "<init>", "()V"⟩
abbrev cG_init : ByteArray := prog_7_method_1_code
theorem my_G_init : MyM yG_init cG_init 1 none 0 := ⟨wd_12, wd_234, ⟨by decide +kernel, by decide +kernel, by decide +kernel⟩, by decide⟩
theorem mi_G_init : Cond.instanceMethod yG_init ∈ lw_tbl := wd_233
def yH_init : MethodName := ⟨"HomeFreed$Heap", "<init>", "(LHomeFreed$Rules;)V"⟩
abbrev cH_init : ByteArray := prog_3_method_1_code
theorem my_H_init : MyM yH_init cH_init 2 none 1 := ⟨wd_6, wd_122, ⟨by decide +kernel, by decide +kernel, by decide +kernel⟩, by decide⟩
theorem mi_H_init : Cond.instanceMethod yH_init ∈ lw_tbl := wd_121
def yL_init : MethodName := ⟨"HomeFreed$Log", "<init>", "()V"⟩
abbrev cL_init : ByteArray := prog_4_method_1_code
theorem my_L_init : MyM yL_init cL_init 1 none 0 := ⟨wd_9, wd_156, ⟨by decide +kernel, by decide +kernel, by decide +kernel⟩, by decide⟩
theorem mi_L_init : Cond.instanceMethod yL_init ∈ lw_tbl := wd_155
def yM_init : MethodName := ⟨"HomeFreedModel", "<init>", "()V"⟩
abbrev cM_init : ByteArray := prog_13_method_3_code
theorem my_M_init : MyM yM_init cM_init 1 none 0 := ⟨wd_13, wd_1166, ⟨by decide +kernel, by decide +kernel, by decide +kernel⟩, by decide⟩
theorem mi_M_init : Cond.instanceMethod yM_init ∈ lw_tbl := wd_1165
def yP_init : MethodName := ⟨"HomeFreed$Past", "<init>", "(LHomeFreed$Rules;)V"⟩
abbrev cP_init : ByteArray := prog_6_method_1_code
theorem my_P_init : MyM yP_init cP_init 3 none 1 := ⟨wd_10, wd_205, ⟨by decide +kernel, by decide +kernel, by decide +kernel⟩, by decide⟩
theorem mi_P_init : Cond.instanceMethod yP_init ∈ lw_tbl := wd_204
def yR_init : MethodName := ⟨"HomeFreed$Reader", "<init>", "(LHomeFreed$Tape;)V"⟩
abbrev cR_init : ByteArray := prog_8_method_1_code
theorem my_R_init : MyM yR_init cR_init 2 none 1 := ⟨wd_3, wd_54, ⟨by decide +kernel, by decide +kernel, by decide +kernel⟩, by decide⟩
theorem mi_R_init : Cond.instanceMethod yR_init ∈ lw_tbl := wd_53
def yS_init : MethodName := ⟨"HomeFreed$Script", "<init>", "()V"⟩
abbrev cS_init : ByteArray := prog_10_method_1_code
theorem my_S_init : MyM yS_init cS_init 1 none 0 := ⟨wd_5, wd_94, ⟨by decide +kernel, by decide +kernel, by decide +kernel⟩, by decide⟩
theorem mi_S_init : Cond.instanceMethod yS_init ∈ lw_tbl := wd_93
def yT_init : MethodName := ⟨"HomeFreed$Tape", "<init>", "()V"⟩
abbrev cT_init : ByteArray := prog_11_method_1_code
theorem my_T_init : MyM yT_init cT_init 1 none 0 := ⟨wd_2, wd_37, ⟨by decide +kernel, by decide +kernel, by decide +kernel⟩, by decide⟩
theorem mi_T_init : Cond.instanceMethod yT_init ∈ lw_tbl := wd_36
def yU_init : MethodName := ⟨"HomeFreed$Rules", "<init>", "()V"⟩
abbrev cU_init : ByteArray := prog_9_method_1_code
theorem my_U_init : MyM yU_init cU_init 1 none 0 := ⟨wd_4, wd_72, ⟨by decide +kernel, by decide +kernel, by decide +kernel⟩, by decide⟩
theorem mi_U_init : Cond.instanceMethod yU_init ∈ lw_tbl := wd_71
def yX_init : MethodName := ⟨"HomeFreed$Mixer", "<init>", "(LHomeFreed$Rules;)V"⟩
abbrev cX_init : ByteArray := prog_5_method_1_code
theorem my_X_init : MyM yX_init cX_init 3 none 1 := ⟨wd_11, wd_225, ⟨by decide +kernel, by decide +kernel, by decide +kernel⟩, by decide⟩
theorem mi_X_init : Cond.instanceMethod yX_init ∈ lw_tbl := wd_224
set_option maxRecDepth 100000 in
def fT_init (v0 : Nat) (M : Mem) : Option (Mem) :=
  (alF M 100 (Int32.toNatClampNeg 240)).bind fun q1 => gd (obM q1 v0 9 2) <| gd (decide ((cnM q1) ≠ 0)) <| (some (srM q1 v0 0 (cnM q1))).bind fun q4 => gd (obM q4 v0 9 2) <| some (siM q4 v0 1 0)
set_option maxRecDepth 100000 in
def fR_init (v0 : Nat) (v1 : Nat) (M : Mem) : Option (Mem) :=
  gd (obM M v0 6 3) <| gd (decide (v1 ≠ 0)) <| (some (srM M v0 0 v1)).bind fun q3 => gd (obM q3 v0 6 3) <| some (siM (siM q3 v0 1 0) v0 2 ((-1)))
set_option maxRecDepth 100000 in
def fU_init (v0 : Nat) (M : Mem) : Option (Mem) :=
  (alF M 100 (Int32.toNatClampNeg 5)).bind fun q1 => gd (obM q1 v0 7 3) <| gd (decide ((cnM q1) ≠ 0)) <| (some (srM q1 v0 0 (cnM q1))).bind fun q4 => (alF q4 100 (Int32.toNatClampNeg 6)).bind fun q5 => gd (obM q5 v0 7 3) <| gd (decide ((cnM q5) ≠ 0)) <| (some (srM q5 v0 1 (cnM q5))).bind fun q8 => gd (obM q8 v0 7 3) <| some (siM q8 v0 2 0)
set_option maxRecDepth 100000 in
def fS_init (v0 : Nat) (M : Mem) : Option (Mem) :=
  (alF M 100 (Int32.toNatClampNeg 24)).bind fun q1 => gd (obM q1 v0 8 4) <| gd (decide ((cnM q1) ≠ 0)) <| (some (srM q1 v0 0 (cnM q1))).bind fun q4 => (alF q4 100 (Int32.toNatClampNeg 24)).bind fun q5 => gd (obM q5 v0 8 4) <| gd (decide ((cnM q5) ≠ 0)) <| (some (srM q5 v0 1 (cnM q5))).bind fun q8 => (alF q8 100 (Int32.toNatClampNeg 24)).bind fun q9 => gd (obM q9 v0 8 4) <| gd (decide ((cnM q9) ≠ 0)) <| (some (srM q9 v0 2 (cnM q9))).bind fun q12 => gd (obM q12 v0 8 4) <| some (siM q12 v0 3 0)
set_option maxRecDepth 100000 in
def fC_init (v0 : Nat) (v1 : Int32) (v2 : Int32) (M : Mem) : Option (Mem) :=
  gd (decide (0 ≤ (Int32.toInt v1))) <| gd (decide (Int32.toNatClampNeg v1 * 4 ≤ 536870912)) <| (alF M 100 (Int32.toNatClampNeg v1)).bind fun q3 => gd (obM q3 v0 0 4) <| gd (decide ((cnM q3) ≠ 0)) <| (some (srM q3 v0 0 (cnM q3))).bind fun q6 => gd (decide (0 ≤ (Int32.toInt v1))) <| gd (decide (Int32.toNatClampNeg v1 * 4 ≤ 536870912)) <| (alF q6 100 (Int32.toNatClampNeg v1)).bind fun q9 => gd (obM q9 v0 0 4) <| gd (decide ((cnM q9) ≠ 0)) <| (some (srM q9 v0 1 (cnM q9))).bind fun q12 => gd (decide (0 ≤ (Int32.toInt v2))) <| gd (decide (Int32.toNatClampNeg v2 * 4 ≤ 536870912)) <| (alF q12 100 (Int32.toNatClampNeg v2)).bind fun q15 => gd (obM q15 v0 0 4) <| gd (decide ((cnM q15) ≠ 0)) <| (some (srM q15 v0 2 (cnM q15))).bind fun q18 => gd (decide (0 ≤ (Int32.toInt v2))) <| gd (decide (Int32.toNatClampNeg v2 * 4 ≤ 536870912)) <| (alF q18 100 (Int32.toNatClampNeg v2)).bind fun q21 => gd (obM q21 v0 0 4) <| gd (decide ((cnM q21) ≠ 0)) <| (some (srM q21 v0 3 (cnM q21))).bind fun q24 => gd (obM q24 v0 0 4) <| gd (decide (grM q24 v0 0 ≠ 0)) <| (fY_fill (grM q24 v0 0) ((-1)) q24).bind fun q27 => gd (obM q27 v0 0 4) <| gd (decide (grM q27 v0 2 ≠ 0)) <| (fY_fill (grM q27 v0 2) ((-1)) q27).bind fun q30 => gd (obM q30 v0 0 4) <| gd (decide (grM q30 v0 3 ≠ 0)) <| (fY_fill (grM q30 v0 3) ((-1)) q30).bind fun q33 => some q33
set_option maxRecDepth 100000 in
def fL_init (v0 : Nat) (M : Mem) : Option (Mem) :=
  (alF M 100 (Int32.toNatClampNeg 60)).bind fun q1 => gd (obM q1 v0 2 2) <| gd (decide ((cnM q1) ≠ 0)) <| (some (srM q1 v0 0 (cnM q1))).bind fun q4 => gd (obM q4 v0 2 2) <| some (siM q4 v0 1 0)
set_option maxRecDepth 100000 in
def fH_init (v0 : Nat) (v1 : Nat) (M : Mem) : Option (Mem) :=
  (alF M 100 (Int32.toNatClampNeg 16)).bind fun q1 => gd (obM q1 v0 1 9) <| gd (decide ((cnM q1) ≠ 0)) <| (some (srM q1 v0 1 (cnM q1))).bind fun q4 => (alF q4 100 (Int32.toNatClampNeg 16)).bind fun q5 => gd (obM q5 v0 1 9) <| gd (decide ((cnM q5) ≠ 0)) <| (some (srM q5 v0 2 (cnM q5))).bind fun q8 => (alF q8 100 (Int32.toNatClampNeg 16)).bind fun q9 => gd (obM q9 v0 1 9) <| gd (decide ((cnM q9) ≠ 0)) <| (some (srM q9 v0 3 (cnM q9))).bind fun q12 => (alF q12 0 4).bind fun q13 => (fC_init (cnM q13) 24 16 q13).bind fun q14 => gd (obM q14 v0 1 9) <| gd (decide ((cnM q13) ≠ 0)) <| (some (srM q14 v0 4 (cnM q13))).bind fun q17 => (alF q17 0 4).bind fun q18 => (fC_init (cnM q18) 112 640 q18).bind fun q19 => gd (obM q19 v0 1 9) <| gd (decide ((cnM q18) ≠ 0)) <| (some (srM q19 v0 5 (cnM q18))).bind fun q22 => (alF q22 100 (Int32.toNatClampNeg 4)).bind fun q23 => gd (obM q23 v0 1 9) <| gd (decide ((cnM q23) ≠ 0)) <| (some (srM q23 v0 6 (cnM q23))).bind fun q26 => (alF q26 100 (Int32.toNatClampNeg 4)).bind fun q27 => gd (obM q27 v0 1 9) <| gd (decide ((cnM q27) ≠ 0)) <| (some (srM q27 v0 7 (cnM q27))).bind fun q30 => (alF q30 2 2).bind fun q31 => (fL_init (cnM q31) q31).bind fun q32 => gd (obM q32 v0 1 9) <| gd (decide ((cnM q31) ≠ 0)) <| (some (srM q32 v0 8 (cnM q31))).bind fun q35 => gd (obM q35 v0 1 9) <| gd (decide (v1 ≠ 0)) <| (some (srM q35 v0 0 v1)).bind fun q38 => gd (obM q38 v0 1 9) <| gd (decide (grM q38 v0 1 ≠ 0)) <| (fY_fill (grM q38 v0 1) ((-1)) q38).bind fun q41 => gd (obM q41 v0 1 9) <| gd (decide (grM q41 v0 2 ≠ 0)) <| (fY_fill (grM q41 v0 2) ((-1)) q41).bind fun q44 => gd (obM q44 v0 1 9) <| gd (decide (grM q44 v0 6 ≠ 0)) <| (fY_fill (grM q44 v0 6) 1 q44).bind fun q47 => some q47
set_option maxRecDepth 100000 in
def fP_init (v0 : Nat) (v1 : Nat) (M : Mem) : Option (Mem) :=
  (alF M 103 (Int32.toNatClampNeg 40)).bind fun q1 => gd (obM q1 v0 4 3) <| gd (decide ((cnM q1) ≠ 0)) <| (some (srM q1 v0 0 (cnM q1))).bind fun q4 => gd (obM q4 v0 4 3) <| gd (decide (grM q4 v0 0 ≠ 0)) <| (alF q4 1 9).bind fun q7 => (fH_init (cnM q7) v1 q7).bind fun q8 => gd (wrT 103 q8 (grM q4 v0 0) 0) <| gd (obM q8 (cnM q7) 1 9) <| (some (srM q8 (grM q4 v0 0) (Int32.toNatClampNeg 0) (cnM q7))).bind fun q11 => gd (obM q11 v0 4 3) <| gd (decide (grM q11 v0 0 ≠ 0)) <| (alF q11 1 9).bind fun q14 => (fH_init (cnM q14) v1 q14).bind fun q15 => gd (wrT 103 q15 (grM q11 v0 0) 1) <| gd (obM q15 (cnM q14) 1 9) <| (some (srM q15 (grM q11 v0 0) (Int32.toNatClampNeg 1) (cnM q14))).bind fun q18 => gd (obM q18 v0 4 3) <| gd (decide (grM q18 v0 0 ≠ 0)) <| (alF q18 1 9).bind fun q21 => (fH_init (cnM q21) v1 q21).bind fun q22 => gd (wrT 103 q22 (grM q18 v0 0) 2) <| gd (obM q22 (cnM q21) 1 9) <| (some (srM q22 (grM q18 v0 0) (Int32.toNatClampNeg 2) (cnM q21))).bind fun q25 => gd (obM q25 v0 4 3) <| gd (decide (grM q25 v0 0 ≠ 0)) <| (alF q25 1 9).bind fun q28 => (fH_init (cnM q28) v1 q28).bind fun q29 => gd (wrT 103 q29 (grM q25 v0 0) 3) <| gd (obM q29 (cnM q28) 1 9) <| (some (srM q29 (grM q25 v0 0) (Int32.toNatClampNeg 3) (cnM q28))).bind fun q32 => gd (obM q32 v0 4 3) <| gd (decide (grM q32 v0 0 ≠ 0)) <| (alF q32 1 9).bind fun q35 => (fH_init (cnM q35) v1 q35).bind fun q36 => gd (wrT 103 q36 (grM q32 v0 0) 4) <| gd (obM q36 (cnM q35) 1 9) <| (some (srM q36 (grM q32 v0 0) (Int32.toNatClampNeg 4) (cnM q35))).bind fun q39 => gd (obM q39 v0 4 3) <| gd (decide (grM q39 v0 0 ≠ 0)) <| (alF q39 1 9).bind fun q42 => (fH_init (cnM q42) v1 q42).bind fun q43 => gd (wrT 103 q43 (grM q39 v0 0) 5) <| gd (obM q43 (cnM q42) 1 9) <| (some (srM q43 (grM q39 v0 0) (Int32.toNatClampNeg 5) (cnM q42))).bind fun q46 => gd (obM q46 v0 4 3) <| gd (decide (grM q46 v0 0 ≠ 0)) <| (alF q46 1 9).bind fun q49 => (fH_init (cnM q49) v1 q49).bind fun q50 => gd (wrT 103 q50 (grM q46 v0 0) 6) <| gd (obM q50 (cnM q49) 1 9) <| (some (srM q50 (grM q46 v0 0) (Int32.toNatClampNeg 6) (cnM q49))).bind fun q53 => gd (obM q53 v0 4 3) <| gd (decide (grM q53 v0 0 ≠ 0)) <| (alF q53 1 9).bind fun q56 => (fH_init (cnM q56) v1 q56).bind fun q57 => gd (wrT 103 q57 (grM q53 v0 0) 7) <| gd (obM q57 (cnM q56) 1 9) <| (some (srM q57 (grM q53 v0 0) (Int32.toNatClampNeg 7) (cnM q56))).bind fun q60 => gd (obM q60 v0 4 3) <| gd (decide (grM q60 v0 0 ≠ 0)) <| (alF q60 1 9).bind fun q63 => (fH_init (cnM q63) v1 q63).bind fun q64 => gd (wrT 103 q64 (grM q60 v0 0) 8) <| gd (obM q64 (cnM q63) 1 9) <| (some (srM q64 (grM q60 v0 0) (Int32.toNatClampNeg 8) (cnM q63))).bind fun q67 => gd (obM q67 v0 4 3) <| gd (decide (grM q67 v0 0 ≠ 0)) <| (alF q67 1 9).bind fun q70 => (fH_init (cnM q70) v1 q70).bind fun q71 => gd (wrT 103 q71 (grM q67 v0 0) 9) <| gd (obM q71 (cnM q70) 1 9) <| (some (srM q71 (grM q67 v0 0) (Int32.toNatClampNeg 9) (cnM q70))).bind fun q74 => gd (obM q74 v0 4 3) <| gd (decide (grM q74 v0 0 ≠ 0)) <| (alF q74 1 9).bind fun q77 => (fH_init (cnM q77) v1 q77).bind fun q78 => gd (wrT 103 q78 (grM q74 v0 0) 10) <| gd (obM q78 (cnM q77) 1 9) <| (some (srM q78 (grM q74 v0 0) (Int32.toNatClampNeg 10) (cnM q77))).bind fun q81 => gd (obM q81 v0 4 3) <| gd (decide (grM q81 v0 0 ≠ 0)) <| (alF q81 1 9).bind fun q84 => (fH_init (cnM q84) v1 q84).bind fun q85 => gd (wrT 103 q85 (grM q81 v0 0) 11) <| gd (obM q85 (cnM q84) 1 9) <| (some (srM q85 (grM q81 v0 0) (Int32.toNatClampNeg 11) (cnM q84))).bind fun q88 => gd (obM q88 v0 4 3) <| gd (decide (grM q88 v0 0 ≠ 0)) <| (alF q88 1 9).bind fun q91 => (fH_init (cnM q91) v1 q91).bind fun q92 => gd (wrT 103 q92 (grM q88 v0 0) 12) <| gd (obM q92 (cnM q91) 1 9) <| (some (srM q92 (grM q88 v0 0) (Int32.toNatClampNeg 12) (cnM q91))).bind fun q95 => gd (obM q95 v0 4 3) <| gd (decide (grM q95 v0 0 ≠ 0)) <| (alF q95 1 9).bind fun q98 => (fH_init (cnM q98) v1 q98).bind fun q99 => gd (wrT 103 q99 (grM q95 v0 0) 13) <| gd (obM q99 (cnM q98) 1 9) <| (some (srM q99 (grM q95 v0 0) (Int32.toNatClampNeg 13) (cnM q98))).bind fun q102 => gd (obM q102 v0 4 3) <| gd (decide (grM q102 v0 0 ≠ 0)) <| (alF q102 1 9).bind fun q105 => (fH_init (cnM q105) v1 q105).bind fun q106 => gd (wrT 103 q106 (grM q102 v0 0) 14) <| gd (obM q106 (cnM q105) 1 9) <| (some (srM q106 (grM q102 v0 0) (Int32.toNatClampNeg 14) (cnM q105))).bind fun q109 => gd (obM q109 v0 4 3) <| gd (decide (grM q109 v0 0 ≠ 0)) <| (alF q109 1 9).bind fun q112 => (fH_init (cnM q112) v1 q112).bind fun q113 => gd (wrT 103 q113 (grM q109 v0 0) 15) <| gd (obM q113 (cnM q112) 1 9) <| (some (srM q113 (grM q109 v0 0) (Int32.toNatClampNeg 15) (cnM q112))).bind fun q116 => gd (obM q116 v0 4 3) <| gd (decide (grM q116 v0 0 ≠ 0)) <| (alF q116 1 9).bind fun q119 => (fH_init (cnM q119) v1 q119).bind fun q120 => gd (wrT 103 q120 (grM q116 v0 0) 16) <| gd (obM q120 (cnM q119) 1 9) <| (some (srM q120 (grM q116 v0 0) (Int32.toNatClampNeg 16) (cnM q119))).bind fun q123 => gd (obM q123 v0 4 3) <| gd (decide (grM q123 v0 0 ≠ 0)) <| (alF q123 1 9).bind fun q126 => (fH_init (cnM q126) v1 q126).bind fun q127 => gd (wrT 103 q127 (grM q123 v0 0) 17) <| gd (obM q127 (cnM q126) 1 9) <| (some (srM q127 (grM q123 v0 0) (Int32.toNatClampNeg 17) (cnM q126))).bind fun q130 => gd (obM q130 v0 4 3) <| gd (decide (grM q130 v0 0 ≠ 0)) <| (alF q130 1 9).bind fun q133 => (fH_init (cnM q133) v1 q133).bind fun q134 => gd (wrT 103 q134 (grM q130 v0 0) 18) <| gd (obM q134 (cnM q133) 1 9) <| (some (srM q134 (grM q130 v0 0) (Int32.toNatClampNeg 18) (cnM q133))).bind fun q137 => gd (obM q137 v0 4 3) <| gd (decide (grM q137 v0 0 ≠ 0)) <| (alF q137 1 9).bind fun q140 => (fH_init (cnM q140) v1 q140).bind fun q141 => gd (wrT 103 q141 (grM q137 v0 0) 19) <| gd (obM q141 (cnM q140) 1 9) <| (some (srM q141 (grM q137 v0 0) (Int32.toNatClampNeg 19) (cnM q140))).bind fun q144 => gd (obM q144 v0 4 3) <| gd (decide (grM q144 v0 0 ≠ 0)) <| (alF q144 1 9).bind fun q147 => (fH_init (cnM q147) v1 q147).bind fun q148 => gd (wrT 103 q148 (grM q144 v0 0) 20) <| gd (obM q148 (cnM q147) 1 9) <| (some (srM q148 (grM q144 v0 0) (Int32.toNatClampNeg 20) (cnM q147))).bind fun q151 => gd (obM q151 v0 4 3) <| gd (decide (grM q151 v0 0 ≠ 0)) <| (alF q151 1 9).bind fun q154 => (fH_init (cnM q154) v1 q154).bind fun q155 => gd (wrT 103 q155 (grM q151 v0 0) 21) <| gd (obM q155 (cnM q154) 1 9) <| (some (srM q155 (grM q151 v0 0) (Int32.toNatClampNeg 21) (cnM q154))).bind fun q158 => gd (obM q158 v0 4 3) <| gd (decide (grM q158 v0 0 ≠ 0)) <| (alF q158 1 9).bind fun q161 => (fH_init (cnM q161) v1 q161).bind fun q162 => gd (wrT 103 q162 (grM q158 v0 0) 22) <| gd (obM q162 (cnM q161) 1 9) <| (some (srM q162 (grM q158 v0 0) (Int32.toNatClampNeg 22) (cnM q161))).bind fun q165 => gd (obM q165 v0 4 3) <| gd (decide (grM q165 v0 0 ≠ 0)) <| (alF q165 1 9).bind fun q168 => (fH_init (cnM q168) v1 q168).bind fun q169 => gd (wrT 103 q169 (grM q165 v0 0) 23) <| gd (obM q169 (cnM q168) 1 9) <| (some (srM q169 (grM q165 v0 0) (Int32.toNatClampNeg 23) (cnM q168))).bind fun q172 => gd (obM q172 v0 4 3) <| gd (decide (grM q172 v0 0 ≠ 0)) <| (alF q172 1 9).bind fun q175 => (fH_init (cnM q175) v1 q175).bind fun q176 => gd (wrT 103 q176 (grM q172 v0 0) 24) <| gd (obM q176 (cnM q175) 1 9) <| (some (srM q176 (grM q172 v0 0) (Int32.toNatClampNeg 24) (cnM q175))).bind fun q179 => gd (obM q179 v0 4 3) <| gd (decide (grM q179 v0 0 ≠ 0)) <| (alF q179 1 9).bind fun q182 => (fH_init (cnM q182) v1 q182).bind fun q183 => gd (wrT 103 q183 (grM q179 v0 0) 25) <| gd (obM q183 (cnM q182) 1 9) <| (some (srM q183 (grM q179 v0 0) (Int32.toNatClampNeg 25) (cnM q182))).bind fun q186 => gd (obM q186 v0 4 3) <| gd (decide (grM q186 v0 0 ≠ 0)) <| (alF q186 1 9).bind fun q189 => (fH_init (cnM q189) v1 q189).bind fun q190 => gd (wrT 103 q190 (grM q186 v0 0) 26) <| gd (obM q190 (cnM q189) 1 9) <| (some (srM q190 (grM q186 v0 0) (Int32.toNatClampNeg 26) (cnM q189))).bind fun q193 => gd (obM q193 v0 4 3) <| gd (decide (grM q193 v0 0 ≠ 0)) <| (alF q193 1 9).bind fun q196 => (fH_init (cnM q196) v1 q196).bind fun q197 => gd (wrT 103 q197 (grM q193 v0 0) 27) <| gd (obM q197 (cnM q196) 1 9) <| (some (srM q197 (grM q193 v0 0) (Int32.toNatClampNeg 27) (cnM q196))).bind fun q200 => gd (obM q200 v0 4 3) <| gd (decide (grM q200 v0 0 ≠ 0)) <| (alF q200 1 9).bind fun q203 => (fH_init (cnM q203) v1 q203).bind fun q204 => gd (wrT 103 q204 (grM q200 v0 0) 28) <| gd (obM q204 (cnM q203) 1 9) <| (some (srM q204 (grM q200 v0 0) (Int32.toNatClampNeg 28) (cnM q203))).bind fun q207 => gd (obM q207 v0 4 3) <| gd (decide (grM q207 v0 0 ≠ 0)) <| (alF q207 1 9).bind fun q210 => (fH_init (cnM q210) v1 q210).bind fun q211 => gd (wrT 103 q211 (grM q207 v0 0) 29) <| gd (obM q211 (cnM q210) 1 9) <| (some (srM q211 (grM q207 v0 0) (Int32.toNatClampNeg 29) (cnM q210))).bind fun q214 => gd (obM q214 v0 4 3) <| gd (decide (grM q214 v0 0 ≠ 0)) <| (alF q214 1 9).bind fun q217 => (fH_init (cnM q217) v1 q217).bind fun q218 => gd (wrT 103 q218 (grM q214 v0 0) 30) <| gd (obM q218 (cnM q217) 1 9) <| (some (srM q218 (grM q214 v0 0) (Int32.toNatClampNeg 30) (cnM q217))).bind fun q221 => gd (obM q221 v0 4 3) <| gd (decide (grM q221 v0 0 ≠ 0)) <| (alF q221 1 9).bind fun q224 => (fH_init (cnM q224) v1 q224).bind fun q225 => gd (wrT 103 q225 (grM q221 v0 0) 31) <| gd (obM q225 (cnM q224) 1 9) <| (some (srM q225 (grM q221 v0 0) (Int32.toNatClampNeg 31) (cnM q224))).bind fun q228 => gd (obM q228 v0 4 3) <| gd (decide (grM q228 v0 0 ≠ 0)) <| (alF q228 1 9).bind fun q231 => (fH_init (cnM q231) v1 q231).bind fun q232 => gd (wrT 103 q232 (grM q228 v0 0) 32) <| gd (obM q232 (cnM q231) 1 9) <| (some (srM q232 (grM q228 v0 0) (Int32.toNatClampNeg 32) (cnM q231))).bind fun q235 => gd (obM q235 v0 4 3) <| gd (decide (grM q235 v0 0 ≠ 0)) <| (alF q235 1 9).bind fun q238 => (fH_init (cnM q238) v1 q238).bind fun q239 => gd (wrT 103 q239 (grM q235 v0 0) 33) <| gd (obM q239 (cnM q238) 1 9) <| (some (srM q239 (grM q235 v0 0) (Int32.toNatClampNeg 33) (cnM q238))).bind fun q242 => gd (obM q242 v0 4 3) <| gd (decide (grM q242 v0 0 ≠ 0)) <| (alF q242 1 9).bind fun q245 => (fH_init (cnM q245) v1 q245).bind fun q246 => gd (wrT 103 q246 (grM q242 v0 0) 34) <| gd (obM q246 (cnM q245) 1 9) <| (some (srM q246 (grM q242 v0 0) (Int32.toNatClampNeg 34) (cnM q245))).bind fun q249 => gd (obM q249 v0 4 3) <| gd (decide (grM q249 v0 0 ≠ 0)) <| (alF q249 1 9).bind fun q252 => (fH_init (cnM q252) v1 q252).bind fun q253 => gd (wrT 103 q253 (grM q249 v0 0) 35) <| gd (obM q253 (cnM q252) 1 9) <| (some (srM q253 (grM q249 v0 0) (Int32.toNatClampNeg 35) (cnM q252))).bind fun q256 => gd (obM q256 v0 4 3) <| gd (decide (grM q256 v0 0 ≠ 0)) <| (alF q256 1 9).bind fun q259 => (fH_init (cnM q259) v1 q259).bind fun q260 => gd (wrT 103 q260 (grM q256 v0 0) 36) <| gd (obM q260 (cnM q259) 1 9) <| (some (srM q260 (grM q256 v0 0) (Int32.toNatClampNeg 36) (cnM q259))).bind fun q263 => gd (obM q263 v0 4 3) <| gd (decide (grM q263 v0 0 ≠ 0)) <| (alF q263 1 9).bind fun q266 => (fH_init (cnM q266) v1 q266).bind fun q267 => gd (wrT 103 q267 (grM q263 v0 0) 37) <| gd (obM q267 (cnM q266) 1 9) <| (some (srM q267 (grM q263 v0 0) (Int32.toNatClampNeg 37) (cnM q266))).bind fun q270 => gd (obM q270 v0 4 3) <| gd (decide (grM q270 v0 0 ≠ 0)) <| (alF q270 1 9).bind fun q273 => (fH_init (cnM q273) v1 q273).bind fun q274 => gd (wrT 103 q274 (grM q270 v0 0) 38) <| gd (obM q274 (cnM q273) 1 9) <| (some (srM q274 (grM q270 v0 0) (Int32.toNatClampNeg 38) (cnM q273))).bind fun q277 => gd (obM q277 v0 4 3) <| gd (decide (grM q277 v0 0 ≠ 0)) <| (alF q277 1 9).bind fun q280 => (fH_init (cnM q280) v1 q280).bind fun q281 => gd (wrT 103 q281 (grM q277 v0 0) 39) <| gd (obM q281 (cnM q280) 1 9) <| (some (srM q281 (grM q277 v0 0) (Int32.toNatClampNeg 39) (cnM q280))).bind fun q284 => gd (obM q284 v0 4 3) <| some (siM (siM q284 v0 1 0) v0 2 0)
set_option maxRecDepth 100000 in
def fG_init (v0 : Nat) (M : Mem) : Option (Mem) :=
  (alF M 100 (Int32.toNatClampNeg 24)).bind fun q1 => gd (obM q1 v0 5 5) <| gd (decide ((cnM q1) ≠ 0)) <| (some (srM q1 v0 0 (cnM q1))).bind fun q4 => (alF q4 100 (Int32.toNatClampNeg 24)).bind fun q5 => gd (obM q5 v0 5 5) <| gd (decide ((cnM q5) ≠ 0)) <| (some (srM q5 v0 1 (cnM q5))).bind fun q8 => (alF q8 100 (Int32.toNatClampNeg 24)).bind fun q9 => gd (obM q9 v0 5 5) <| gd (decide ((cnM q9) ≠ 0)) <| (some (srM q9 v0 2 (cnM q9))).bind fun q12 => gd (obM q12 v0 5 5) <| some (siM (siM q12 v0 3 0) v0 4 0)
set_option maxRecDepth 100000 in
def fX_init (v0 : Nat) (v1 : Nat) (M : Mem) : Option (Mem) :=
  (alF M 103 (Int32.toNatClampNeg 7)).bind fun q1 => gd (obM q1 v0 3 9) <| gd (decide ((cnM q1) ≠ 0)) <| (some (srM q1 v0 0 (cnM q1))).bind fun q4 => (alF q4 105 (Int32.toNatClampNeg 7)).bind fun q5 => gd (obM q5 v0 3 9) <| gd (decide ((cnM q5) ≠ 0)) <| (some (srM q5 v0 1 (cnM q5))).bind fun q8 => (alF q8 105 (Int32.toNatClampNeg 7)).bind fun q9 => gd (obM q9 v0 3 9) <| gd (decide ((cnM q9) ≠ 0)) <| (some (srM q9 v0 2 (cnM q9))).bind fun q12 => gd (obM q12 v0 3 9) <| gd (decide (grM q12 v0 0 ≠ 0)) <| gd (lnT 103 q12 (grM q12 v0 0)) <| gd (decide ((tgM q12 (grM q12 v0 0)).2 = 7)) <| (alF q12 1 9).bind fun q17 => (fH_init (cnM q17) v1 q17).bind fun q18 => gd (wrT 103 q18 (grM q12 v0 0) 0) <| gd (obM q18 (cnM q17) 1 9) <| (some (srM q18 (grM q12 v0 0) (Int32.toNatClampNeg 0) (cnM q17))).bind fun q21 => gd (obM q21 v0 3 9) <| gd (decide (grM q21 v0 1 ≠ 0)) <| (alF q21 5 5).bind fun q24 => (fG_init (cnM q24) q24).bind fun q25 => gd (wrT 105 q25 (grM q21 v0 1) 0) <| gd (obM q25 (cnM q24) 5 5) <| (some (srM q25 (grM q21 v0 1) (Int32.toNatClampNeg 0) (cnM q24))).bind fun q28 => gd (obM q28 v0 3 9) <| gd (decide (grM q28 v0 2 ≠ 0)) <| (alF q28 5 5).bind fun q31 => (fG_init (cnM q31) q31).bind fun q32 => gd (wrT 105 q32 (grM q28 v0 2) 0) <| gd (obM q32 (cnM q31) 5 5) <| (some (srM q32 (grM q28 v0 2) (Int32.toNatClampNeg 0) (cnM q31))).bind fun q35 => gd (obM q35 v0 3 9) <| gd (decide (grM q35 v0 0 ≠ 0)) <| gd (lnT 103 q35 (grM q35 v0 0)) <| gd (decide ((tgM q35 (grM q35 v0 0)).2 = 7)) <| (alF q35 1 9).bind fun q40 => (fH_init (cnM q40) v1 q40).bind fun q41 => gd (wrT 103 q41 (grM q35 v0 0) 1) <| gd (obM q41 (cnM q40) 1 9) <| (some (srM q41 (grM q35 v0 0) (Int32.toNatClampNeg 1) (cnM q40))).bind fun q44 => gd (obM q44 v0 3 9) <| gd (decide (grM q44 v0 1 ≠ 0)) <| (alF q44 5 5).bind fun q47 => (fG_init (cnM q47) q47).bind fun q48 => gd (wrT 105 q48 (grM q44 v0 1) 1) <| gd (obM q48 (cnM q47) 5 5) <| (some (srM q48 (grM q44 v0 1) (Int32.toNatClampNeg 1) (cnM q47))).bind fun q51 => gd (obM q51 v0 3 9) <| gd (decide (grM q51 v0 2 ≠ 0)) <| (alF q51 5 5).bind fun q54 => (fG_init (cnM q54) q54).bind fun q55 => gd (wrT 105 q55 (grM q51 v0 2) 1) <| gd (obM q55 (cnM q54) 5 5) <| (some (srM q55 (grM q51 v0 2) (Int32.toNatClampNeg 1) (cnM q54))).bind fun q58 => gd (obM q58 v0 3 9) <| gd (decide (grM q58 v0 0 ≠ 0)) <| gd (lnT 103 q58 (grM q58 v0 0)) <| gd (decide ((tgM q58 (grM q58 v0 0)).2 = 7)) <| (alF q58 1 9).bind fun q63 => (fH_init (cnM q63) v1 q63).bind fun q64 => gd (wrT 103 q64 (grM q58 v0 0) 2) <| gd (obM q64 (cnM q63) 1 9) <| (some (srM q64 (grM q58 v0 0) (Int32.toNatClampNeg 2) (cnM q63))).bind fun q67 => gd (obM q67 v0 3 9) <| gd (decide (grM q67 v0 1 ≠ 0)) <| (alF q67 5 5).bind fun q70 => (fG_init (cnM q70) q70).bind fun q71 => gd (wrT 105 q71 (grM q67 v0 1) 2) <| gd (obM q71 (cnM q70) 5 5) <| (some (srM q71 (grM q67 v0 1) (Int32.toNatClampNeg 2) (cnM q70))).bind fun q74 => gd (obM q74 v0 3 9) <| gd (decide (grM q74 v0 2 ≠ 0)) <| (alF q74 5 5).bind fun q77 => (fG_init (cnM q77) q77).bind fun q78 => gd (wrT 105 q78 (grM q74 v0 2) 2) <| gd (obM q78 (cnM q77) 5 5) <| (some (srM q78 (grM q74 v0 2) (Int32.toNatClampNeg 2) (cnM q77))).bind fun q81 => gd (obM q81 v0 3 9) <| gd (decide (grM q81 v0 0 ≠ 0)) <| gd (lnT 103 q81 (grM q81 v0 0)) <| gd (decide ((tgM q81 (grM q81 v0 0)).2 = 7)) <| (alF q81 1 9).bind fun q86 => (fH_init (cnM q86) v1 q86).bind fun q87 => gd (wrT 103 q87 (grM q81 v0 0) 3) <| gd (obM q87 (cnM q86) 1 9) <| (some (srM q87 (grM q81 v0 0) (Int32.toNatClampNeg 3) (cnM q86))).bind fun q90 => gd (obM q90 v0 3 9) <| gd (decide (grM q90 v0 1 ≠ 0)) <| (alF q90 5 5).bind fun q93 => (fG_init (cnM q93) q93).bind fun q94 => gd (wrT 105 q94 (grM q90 v0 1) 3) <| gd (obM q94 (cnM q93) 5 5) <| (some (srM q94 (grM q90 v0 1) (Int32.toNatClampNeg 3) (cnM q93))).bind fun q97 => gd (obM q97 v0 3 9) <| gd (decide (grM q97 v0 2 ≠ 0)) <| (alF q97 5 5).bind fun q100 => (fG_init (cnM q100) q100).bind fun q101 => gd (wrT 105 q101 (grM q97 v0 2) 3) <| gd (obM q101 (cnM q100) 5 5) <| (some (srM q101 (grM q97 v0 2) (Int32.toNatClampNeg 3) (cnM q100))).bind fun q104 => gd (obM q104 v0 3 9) <| gd (decide (grM q104 v0 0 ≠ 0)) <| gd (lnT 103 q104 (grM q104 v0 0)) <| gd (decide ((tgM q104 (grM q104 v0 0)).2 = 7)) <| (alF q104 1 9).bind fun q109 => (fH_init (cnM q109) v1 q109).bind fun q110 => gd (wrT 103 q110 (grM q104 v0 0) 4) <| gd (obM q110 (cnM q109) 1 9) <| (some (srM q110 (grM q104 v0 0) (Int32.toNatClampNeg 4) (cnM q109))).bind fun q113 => gd (obM q113 v0 3 9) <| gd (decide (grM q113 v0 1 ≠ 0)) <| (alF q113 5 5).bind fun q116 => (fG_init (cnM q116) q116).bind fun q117 => gd (wrT 105 q117 (grM q113 v0 1) 4) <| gd (obM q117 (cnM q116) 5 5) <| (some (srM q117 (grM q113 v0 1) (Int32.toNatClampNeg 4) (cnM q116))).bind fun q120 => gd (obM q120 v0 3 9) <| gd (decide (grM q120 v0 2 ≠ 0)) <| (alF q120 5 5).bind fun q123 => (fG_init (cnM q123) q123).bind fun q124 => gd (wrT 105 q124 (grM q120 v0 2) 4) <| gd (obM q124 (cnM q123) 5 5) <| (some (srM q124 (grM q120 v0 2) (Int32.toNatClampNeg 4) (cnM q123))).bind fun q127 => gd (obM q127 v0 3 9) <| gd (decide (grM q127 v0 0 ≠ 0)) <| gd (lnT 103 q127 (grM q127 v0 0)) <| gd (decide ((tgM q127 (grM q127 v0 0)).2 = 7)) <| (alF q127 1 9).bind fun q132 => (fH_init (cnM q132) v1 q132).bind fun q133 => gd (wrT 103 q133 (grM q127 v0 0) 5) <| gd (obM q133 (cnM q132) 1 9) <| (some (srM q133 (grM q127 v0 0) (Int32.toNatClampNeg 5) (cnM q132))).bind fun q136 => gd (obM q136 v0 3 9) <| gd (decide (grM q136 v0 1 ≠ 0)) <| (alF q136 5 5).bind fun q139 => (fG_init (cnM q139) q139).bind fun q140 => gd (wrT 105 q140 (grM q136 v0 1) 5) <| gd (obM q140 (cnM q139) 5 5) <| (some (srM q140 (grM q136 v0 1) (Int32.toNatClampNeg 5) (cnM q139))).bind fun q143 => gd (obM q143 v0 3 9) <| gd (decide (grM q143 v0 2 ≠ 0)) <| (alF q143 5 5).bind fun q146 => (fG_init (cnM q146) q146).bind fun q147 => gd (wrT 105 q147 (grM q143 v0 2) 5) <| gd (obM q147 (cnM q146) 5 5) <| (some (srM q147 (grM q143 v0 2) (Int32.toNatClampNeg 5) (cnM q146))).bind fun q150 => gd (obM q150 v0 3 9) <| gd (decide (grM q150 v0 0 ≠ 0)) <| gd (lnT 103 q150 (grM q150 v0 0)) <| gd (decide ((tgM q150 (grM q150 v0 0)).2 = 7)) <| (alF q150 1 9).bind fun q155 => (fH_init (cnM q155) v1 q155).bind fun q156 => gd (wrT 103 q156 (grM q150 v0 0) 6) <| gd (obM q156 (cnM q155) 1 9) <| (some (srM q156 (grM q150 v0 0) (Int32.toNatClampNeg 6) (cnM q155))).bind fun q159 => gd (obM q159 v0 3 9) <| gd (decide (grM q159 v0 1 ≠ 0)) <| (alF q159 5 5).bind fun q162 => (fG_init (cnM q162) q162).bind fun q163 => gd (wrT 105 q163 (grM q159 v0 1) 6) <| gd (obM q163 (cnM q162) 5 5) <| (some (srM q163 (grM q159 v0 1) (Int32.toNatClampNeg 6) (cnM q162))).bind fun q166 => gd (obM q166 v0 3 9) <| gd (decide (grM q166 v0 2 ≠ 0)) <| (alF q166 5 5).bind fun q169 => (fG_init (cnM q169) q169).bind fun q170 => gd (wrT 105 q170 (grM q166 v0 2) 6) <| gd (obM q170 (cnM q169) 5 5) <| (some (srM q170 (grM q166 v0 2) (Int32.toNatClampNeg 6) (cnM q169))).bind fun q173 => gd (obM q173 v0 3 9) <| gd (decide (grM q173 v0 0 ≠ 0)) <| gd (lnT 103 q173 (grM q173 v0 0)) <| gd (decide ((tgM q173 (grM q173 v0 0)).2 = 7)) <| (alF q173 8 4).bind fun q178 => (fS_init (cnM q178) q178).bind fun q179 => gd (obM q179 v0 3 9) <| gd (decide ((cnM q178) ≠ 0)) <| (some (srM q179 v0 3 (cnM q178))).bind fun q182 => gd (obM q182 v0 3 9) <| gd (decide (grM q182 v0 3 ≠ 0)) <| (some (srM q182 v0 4 (grM q182 v0 3))).bind fun q185 => some q185
set_option maxRecDepth 100000 in
def fA_init (v0 : Nat) (M : Mem) : Option (Mem) :=
  (alF M 9 2).bind fun q1 => (fT_init (cnM q1) q1).bind fun q2 => gd (obM q2 v0 10 15) <| gd (decide ((cnM q1) ≠ 0)) <| (some (srM q2 v0 0 (cnM q1))).bind fun q5 => (alF q5 6 3).bind fun q6 => gd (obM q6 v0 10 15) <| gd (decide (grM q6 v0 0 ≠ 0)) <| (fR_init (cnM q6) (grM q6 v0 0) q6).bind fun q9 => gd (obM q9 v0 10 15) <| gd (decide ((cnM q6) ≠ 0)) <| (some (srM q9 v0 1 (cnM q6))).bind fun q12 => (alF q12 7 3).bind fun q13 => (fU_init (cnM q13) q13).bind fun q14 => gd (obM q14 v0 10 15) <| gd (decide ((cnM q13) ≠ 0)) <| (some (srM q14 v0 2 (cnM q13))).bind fun q17 => (alF q17 7 3).bind fun q18 => (fU_init (cnM q18) q18).bind fun q19 => gd (obM q19 v0 10 15) <| gd (decide ((cnM q18) ≠ 0)) <| (some (srM q19 v0 3 (cnM q18))).bind fun q22 => (alF q22 104 (Int32.toNatClampNeg 4)).bind fun q23 => gd (obM q23 v0 10 15) <| gd (decide ((cnM q23) ≠ 0)) <| (some (srM q23 v0 4 (cnM q23))).bind fun q26 => gd (obM q26 v0 10 15) <| gd (decide (grM q26 v0 4 ≠ 0)) <| (alF q26 8 4).bind fun q29 => (fS_init (cnM q29) q29).bind fun q30 => gd (wrT 104 q30 (grM q26 v0 4) 0) <| gd (obM q30 (cnM q29) 8 4) <| (some (srM q30 (grM q26 v0 4) (Int32.toNatClampNeg 0) (cnM q29))).bind fun q33 => gd (obM q33 v0 10 15) <| gd (decide (grM q33 v0 4 ≠ 0)) <| (alF q33 8 4).bind fun q36 => (fS_init (cnM q36) q36).bind fun q37 => gd (wrT 104 q37 (grM q33 v0 4) 1) <| gd (obM q37 (cnM q36) 8 4) <| (some (srM q37 (grM q33 v0 4) (Int32.toNatClampNeg 1) (cnM q36))).bind fun q40 => gd (obM q40 v0 10 15) <| gd (decide (grM q40 v0 4 ≠ 0)) <| (alF q40 8 4).bind fun q43 => (fS_init (cnM q43) q43).bind fun q44 => gd (wrT 104 q44 (grM q40 v0 4) 2) <| gd (obM q44 (cnM q43) 8 4) <| (some (srM q44 (grM q40 v0 4) (Int32.toNatClampNeg 2) (cnM q43))).bind fun q47 => gd (obM q47 v0 10 15) <| gd (decide (grM q47 v0 4 ≠ 0)) <| (alF q47 8 4).bind fun q50 => (fS_init (cnM q50) q50).bind fun q51 => gd (wrT 104 q51 (grM q47 v0 4) 3) <| gd (obM q51 (cnM q50) 8 4) <| (some (srM q51 (grM q47 v0 4) (Int32.toNatClampNeg 3) (cnM q50))).bind fun q54 => gd (obM q54 v0 10 15) <| (alF (siM q54 v0 5 0) 8 4).bind fun q56 => (fS_init (cnM q56) q56).bind fun q57 => gd (obM q57 v0 10 15) <| gd (decide ((cnM q56) ≠ 0)) <| (some (srM q57 v0 6 (cnM q56))).bind fun q60 => (alF q60 1 9).bind fun q61 => gd (obM q61 v0 10 15) <| gd (decide (grM q61 v0 2 ≠ 0)) <| (fH_init (cnM q61) (grM q61 v0 2) q61).bind fun q64 => gd (obM q64 v0 10 15) <| gd (decide ((cnM q61) ≠ 0)) <| (some (srM q64 v0 7 (cnM q61))).bind fun q67 => (alF q67 4 3).bind fun q68 => gd (obM q68 v0 10 15) <| gd (decide (grM q68 v0 2 ≠ 0)) <| (fP_init (cnM q68) (grM q68 v0 2) q68).bind fun q71 => gd (obM q71 v0 10 15) <| gd (decide ((cnM q68) ≠ 0)) <| (some (srM q71 v0 8 (cnM q68))).bind fun q74 => (alF q74 1 9).bind fun q75 => gd (obM q75 v0 10 15) <| gd (decide (grM q75 v0 2 ≠ 0)) <| (fH_init (cnM q75) (grM q75 v0 2) q75).bind fun q78 => gd (obM q78 v0 10 15) <| gd (decide ((cnM q75) ≠ 0)) <| (some (srM q78 v0 9 (cnM q75))).bind fun q81 => gd (obM q81 v0 10 15) <| (alF (siM q81 v0 10 0) 100 (Int32.toNatClampNeg 4)).bind fun q83 => gd (obM q83 v0 10 15) <| gd (decide ((cnM q83) ≠ 0)) <| (some (srM q83 v0 11 (cnM q83))).bind fun q86 => (alF q86 3 9).bind fun q87 => gd (obM q87 v0 10 15) <| gd (decide (grM q87 v0 2 ≠ 0)) <| (fX_init (cnM q87) (grM q87 v0 2) q87).bind fun q90 => gd (obM q90 v0 10 15) <| gd (decide ((cnM q87) ≠ 0)) <| (some (srM q90 v0 12 (cnM q87))).bind fun q93 => (alF q93 1 9).bind fun q94 => gd (obM q94 v0 10 15) <| gd (decide (grM q94 v0 2 ≠ 0)) <| (fH_init (cnM q94) (grM q94 v0 2) q94).bind fun q97 => gd (obM q97 v0 10 15) <| gd (decide ((cnM q94) ≠ 0)) <| (some (srM q97 v0 13 (cnM q94))).bind fun q100 => (alF q100 5 5).bind fun q101 => (fG_init (cnM q101) q101).bind fun q102 => gd (obM q102 v0 10 15) <| gd (decide ((cnM q101) ≠ 0)) <| (some (srM q102 v0 14 (cnM q101))).bind fun q105 => some q105
set_option maxRecDepth 100000 in
def fM_init (v0 : Nat) (M : Mem) : Option (Mem) :=
  (alF M 100 (Int32.toNatClampNeg 240)).bind fun q1 => gd (obM q1 v0 11 34) <| gd (decide ((cnM q1) ≠ 0)) <| (some (srM q1 v0 1 (cnM q1))).bind fun q4 => (alF q4 100 (Int32.toNatClampNeg 5)).bind fun q5 => gd (obM q5 v0 11 34) <| gd (decide ((cnM q5) ≠ 0)) <| (some (srM q5 v0 5 (cnM q5))).bind fun q8 => (alF q8 100 (Int32.toNatClampNeg 6)).bind fun q9 => gd (obM q9 v0 11 34) <| gd (decide ((cnM q9) ≠ 0)) <| (some (srM q9 v0 6 (cnM q9))).bind fun q12 => (alF q12 100 (Int32.toNatClampNeg 5)).bind fun q13 => gd (obM q13 v0 11 34) <| gd (decide ((cnM q13) ≠ 0)) <| (some (srM q13 v0 8 (cnM q13))).bind fun q16 => (alF q16 100 (Int32.toNatClampNeg 6)).bind fun q17 => gd (obM q17 v0 11 34) <| gd (decide ((cnM q17) ≠ 0)) <| (some (srM q17 v0 9 (cnM q17))).bind fun q20 => (alF q20 100 (Int32.toNatClampNeg 360)).bind fun q21 => gd (obM q21 v0 11 34) <| gd (decide ((cnM q21) ≠ 0)) <| (some (srM q21 v0 11 (cnM q21))).bind fun q24 => (alF q24 100 (Int32.toNatClampNeg 5)).bind fun q25 => gd (obM q25 v0 11 34) <| gd (decide ((cnM q25) ≠ 0)) <| (some (srM q25 v0 12 (cnM q25))).bind fun q28 => (alF q28 100 (Int32.toNatClampNeg 3893)).bind fun q29 => gd (obM q29 v0 11 34) <| gd (decide ((cnM q29) ≠ 0)) <| (some (srM q29 v0 15 (cnM q29))).bind fun q32 => (alF q32 100 (Int32.toNatClampNeg 4)).bind fun q33 => gd (obM q33 v0 11 34) <| gd (decide ((cnM q33) ≠ 0)) <| (some (srM q33 v0 16 (cnM q33))).bind fun q36 => (alF q36 100 (Int32.toNatClampNeg 48)).bind fun q37 => gd (obM q37 v0 11 34) <| gd (decide ((cnM q37) ≠ 0)) <| (some (srM q37 v0 18 (cnM q37))).bind fun q40 => (alF q40 100 (Int32.toNatClampNeg 48)).bind fun q41 => gd (obM q41 v0 11 34) <| gd (decide ((cnM q41) ≠ 0)) <| (some (srM q41 v0 19 (cnM q41))).bind fun q44 => (alF q44 100 (Int32.toNatClampNeg 48)).bind fun q45 => gd (obM q45 v0 11 34) <| gd (decide ((cnM q45) ≠ 0)) <| (some (srM q45 v0 20 (cnM q45))).bind fun q48 => (alF q48 101 (Int32.toNatClampNeg 48)).bind fun q49 => gd (obM q49 v0 11 34) <| gd (decide ((cnM q49) ≠ 0)) <| (some (srM q49 v0 21 (cnM q49))).bind fun q52 => (alF q52 100 (Int32.toNatClampNeg 2)).bind fun q53 => gd (obM q53 v0 11 34) <| gd (decide ((cnM q53) ≠ 0)) <| (some (srM q53 v0 22 (cnM q53))).bind fun q56 => (alF q56 100 (Int32.toNatClampNeg 155720)).bind fun q57 => gd (obM q57 v0 11 34) <| gd (decide ((cnM q57) ≠ 0)) <| (some (srM q57 v0 24 (cnM q57))).bind fun q60 => (alF q60 100 (Int32.toNatClampNeg 48256)).bind fun q61 => gd (obM q61 v0 11 34) <| gd (decide ((cnM q61) ≠ 0)) <| (some (srM q61 v0 27 (cnM q61))).bind fun q64 => (alF q64 100 (Int32.toNatClampNeg 3893)).bind fun q65 => gd (obM q65 v0 11 34) <| gd (decide ((cnM q65) ≠ 0)) <| (some (srM q65 v0 32 (cnM q65))).bind fun q68 => some q68
theorem ddT_init_0 : decode cT_init 0 = .ok (.aload_n 0, 1) := by decide +kernel
theorem ddT_init_1 : decode cT_init 1 = .ok (.invokespecial 3, 3) := by decide +kernel
theorem ddT_init_4 : decode cT_init 4 = .ok (.aload_n 0, 1) := by decide +kernel
theorem ddT_init_5 : decode cT_init 5 = .ok (.sipush 240, 3) := by decide +kernel
theorem ddT_init_8 : decode cT_init 8 = .ok (.newarray .int, 2) := by decide +kernel
theorem ddT_init_10 : decode cT_init 10 = .ok (.putfield 9, 3) := by decide +kernel
theorem ddT_init_13 : decode cT_init 13 = .ok (.aload_n 0, 1) := by decide +kernel
theorem ddT_init_14 : decode cT_init 14 = .ok (.iconst 0, 1) := by decide +kernel
theorem ddT_init_15 : decode cT_init 15 = .ok (.putfield 15, 3) := by decide +kernel
theorem ddT_init_18 : decode cT_init 18 = .ok (.return_, 1) := by decide +kernel
set_option maxHeartbeats 8000000 in
set_option maxRecDepth 100000 in
theorem xT_init {G : GXM} {l : Launch} (hG : GokM G) (hg : G.2.2.2.2 = true) (d : Nat) (hd : 1 ≤ d) {v0 : Nat} {M : Mem} {q : Mem} (h : fT_init v0 M = some q) : ExM G l d 1 (240) yT_init cT_init 1 none [.ref v0] M none q := by
  refine ex_of hG (by decide +kernel) (Nat.le_of_ble_eq_true rfl) ?_
  intro X hl C E N hD hn
  have hR := EnM_R E
  show ZM G X 0 [(0, .ref v0)] [] M 0 0
  unfold fT_init at h
  refine zz_aload_n C 0 ddT_init_0 rfl rfl ?_
  refine zz_objInit C ddT_init_1 wd_38 ⟨wd_31, wd_32⟩ (by omega) (Nat.le_of_ble_eq_true rfl) ?_
  refine zz_aload_n C 0 ddT_init_4 rfl rfl ?_
  refine zz_sipush (v := 240) C ddT_init_5 (by decide) ?_
  obtain ⟨q1, hq1, h⟩ := bindN h
  refine zz_newI C ddT_init_8 wd_49 hg (by decide) (by decide) hq1 ⟨by rw [hR]; exact Nat.le_of_ble_eq_true rfl, by rw [hR]; exact Nat.le_of_ble_eq_true rfl⟩ ?_
  refine zz_kn (k1 := 1) (n1 := 240) (by decide) (by decide) ?_
  obtain ⟨h2, h⟩ := gdN h
  obtain ⟨h3, h⟩ := gdN h
  obtain ⟨q4, hq4, h⟩ := bindN h
  refine zz_putrq C ddT_init_10 fl_T_9 (Or.inr ⟨hn, _, rfl, rfl⟩) rfl (fun _ => rfl) (fun _ => rfl) h2 (of_decide_eq_true h3) hq4 ?_
  refine zz_aload_n C 0 ddT_init_13 rfl rfl ?_
  refine zz_iconst (v := 0) C ddT_init_14 (by decide) ?_
  obtain ⟨h5, h⟩ := gdN h
  refine zz_puti C ddT_init_15 fl_T_15 rfl rfl rfl h5 ?_
  obtain rfl := Option.some.inj h
  exact zz_vret C E ddT_init_18
theorem ddR_init_0 : decode cR_init 0 = .ok (.aload_n 0, 1) := by decide +kernel
theorem ddR_init_1 : decode cR_init 1 = .ok (.invokespecial 3, 3) := by decide +kernel
theorem ddR_init_4 : decode cR_init 4 = .ok (.aload_n 0, 1) := by decide +kernel
theorem ddR_init_5 : decode cR_init 5 = .ok (.aload_n 1, 1) := by decide +kernel
theorem ddR_init_6 : decode cR_init 6 = .ok (.putfield 9, 3) := by decide +kernel
theorem ddR_init_9 : decode cR_init 9 = .ok (.aload_n 0, 1) := by decide +kernel
theorem ddR_init_10 : decode cR_init 10 = .ok (.iconst 0, 1) := by decide +kernel
theorem ddR_init_11 : decode cR_init 11 = .ok (.putfield 15, 3) := by decide +kernel
theorem ddR_init_14 : decode cR_init 14 = .ok (.aload_n 0, 1) := by decide +kernel
theorem ddR_init_15 : decode cR_init 15 = .ok (.iconst (-1), 1) := by decide +kernel
theorem ddR_init_16 : decode cR_init 16 = .ok (.putfield 19, 3) := by decide +kernel
theorem ddR_init_19 : decode cR_init 19 = .ok (.return_, 1) := by decide +kernel
set_option maxHeartbeats 8000000 in
set_option maxRecDepth 100000 in
theorem xR_init {G : GXM} {l : Launch} (hG : GokM G) (hg : G.2.2.2.2 = true) (d : Nat) (hd : 1 ≤ d) {v0 : Nat} {v1 : Nat} {M : Mem} {q : Mem} (h : fR_init v0 v1 M = some q) : ExM G l d 0 (0) yR_init cR_init 2 none [.ref v0, .ref v1] M none q := by
  refine ex_of hG (by decide +kernel) (Nat.le_of_ble_eq_true rfl) ?_
  intro X hl C E N hD hn
  have hR := EnM_R E
  show ZM G X 0 [(0, .ref v0), (1, .ref v1)] [] M 0 0
  unfold fR_init at h
  refine zz_aload_n C 0 ddR_init_0 rfl rfl ?_
  refine zz_objInit C ddR_init_1 wd_55 ⟨wd_31, wd_32⟩ (by omega) (Nat.le_of_ble_eq_true rfl) ?_
  refine zz_aload_n C 0 ddR_init_4 rfl rfl ?_
  refine zz_aload_n C 1 ddR_init_5 rfl rfl ?_
  obtain ⟨h1, h⟩ := gdN h
  obtain ⟨h2, h⟩ := gdN h
  obtain ⟨q3, hq3, h⟩ := bindN h
  refine zz_putrq C ddR_init_6 fl_R_9 (Or.inr ⟨hn, _, rfl, rfl⟩) rfl (fun _ => rfl) (fun _ => rfl) h1 (of_decide_eq_true h2) hq3 ?_
  refine zz_aload_n C 0 ddR_init_9 rfl rfl ?_
  refine zz_iconst (v := 0) C ddR_init_10 (by decide) ?_
  obtain ⟨h4, h⟩ := gdN h
  refine zz_puti C ddR_init_11 fl_R_15 rfl rfl rfl h4 ?_
  refine zz_aload_n C 0 ddR_init_14 rfl rfl ?_
  refine zz_iconst (v := (-1)) C ddR_init_15 (by decide) ?_
  refine zz_puti C ddR_init_16 fl_R_19 rfl rfl rfl h4 ?_
  obtain rfl := Option.some.inj h
  exact zz_vret C E ddR_init_19
theorem ddU_init_0 : decode cU_init 0 = .ok (.aload_n 0, 1) := by decide +kernel
theorem ddU_init_1 : decode cU_init 1 = .ok (.invokespecial 3, 3) := by decide +kernel
theorem ddU_init_4 : decode cU_init 4 = .ok (.aload_n 0, 1) := by decide +kernel
theorem ddU_init_5 : decode cU_init 5 = .ok (.iconst 5, 1) := by decide +kernel
theorem ddU_init_6 : decode cU_init 6 = .ok (.newarray .int, 2) := by decide +kernel
theorem ddU_init_8 : decode cU_init 8 = .ok (.putfield 9, 3) := by decide +kernel
theorem ddU_init_11 : decode cU_init 11 = .ok (.aload_n 0, 1) := by decide +kernel
theorem ddU_init_12 : decode cU_init 12 = .ok (.bipush 6, 2) := by decide +kernel
theorem ddU_init_14 : decode cU_init 14 = .ok (.newarray .int, 2) := by decide +kernel
theorem ddU_init_16 : decode cU_init 16 = .ok (.putfield 15, 3) := by decide +kernel
theorem ddU_init_19 : decode cU_init 19 = .ok (.aload_n 0, 1) := by decide +kernel
theorem ddU_init_20 : decode cU_init 20 = .ok (.iconst 0, 1) := by decide +kernel
theorem ddU_init_21 : decode cU_init 21 = .ok (.putfield 18, 3) := by decide +kernel
theorem ddU_init_24 : decode cU_init 24 = .ok (.return_, 1) := by decide +kernel
set_option maxHeartbeats 8000000 in
set_option maxRecDepth 100000 in
theorem xU_init {G : GXM} {l : Launch} (hG : GokM G) (hg : G.2.2.2.2 = true) (d : Nat) (hd : 1 ≤ d) {v0 : Nat} {M : Mem} {q : Mem} (h : fU_init v0 M = some q) : ExM G l d 2 (11) yU_init cU_init 1 none [.ref v0] M none q := by
  refine ex_of hG (by decide +kernel) (Nat.le_of_ble_eq_true rfl) ?_
  intro X hl C E N hD hn
  have hR := EnM_R E
  show ZM G X 0 [(0, .ref v0)] [] M 0 0
  unfold fU_init at h
  refine zz_aload_n C 0 ddU_init_0 rfl rfl ?_
  refine zz_objInit C ddU_init_1 wd_73 ⟨wd_31, wd_32⟩ (by omega) (Nat.le_of_ble_eq_true rfl) ?_
  refine zz_aload_n C 0 ddU_init_4 rfl rfl ?_
  refine zz_iconst (v := 5) C ddU_init_5 (by decide) ?_
  obtain ⟨q1, hq1, h⟩ := bindN h
  refine zz_newI C ddU_init_6 wd_49 hg (by decide) (by decide) hq1 ⟨by rw [hR]; exact Nat.le_of_ble_eq_true rfl, by rw [hR]; exact Nat.le_of_ble_eq_true rfl⟩ ?_
  refine zz_kn (k1 := 1) (n1 := 5) (by decide) (by decide) ?_
  obtain ⟨h2, h⟩ := gdN h
  obtain ⟨h3, h⟩ := gdN h
  obtain ⟨q4, hq4, h⟩ := bindN h
  refine zz_putrq C ddU_init_8 fl_U_9 (Or.inr ⟨hn, _, rfl, rfl⟩) rfl (fun _ => rfl) (fun _ => rfl) h2 (of_decide_eq_true h3) hq4 ?_
  refine zz_aload_n C 0 ddU_init_11 rfl rfl ?_
  refine zz_bipush (v := 6) C ddU_init_12 (by decide) ?_
  obtain ⟨q5, hq5, h⟩ := bindN h
  refine zz_newI C ddU_init_14 wd_49 hg (by decide) (by decide) hq5 ⟨by rw [hR]; exact Nat.le_of_ble_eq_true rfl, by rw [hR]; exact Nat.le_of_ble_eq_true rfl⟩ ?_
  refine zz_kn (k1 := 2) (n1 := 11) (by decide) (by decide) ?_
  obtain ⟨h6, h⟩ := gdN h
  obtain ⟨h7, h⟩ := gdN h
  obtain ⟨q8, hq8, h⟩ := bindN h
  refine zz_putrq C ddU_init_16 fl_U_15 (Or.inr ⟨hn, _, rfl, rfl⟩) rfl (fun _ => rfl) (fun _ => rfl) h6 (of_decide_eq_true h7) hq8 ?_
  refine zz_aload_n C 0 ddU_init_19 rfl rfl ?_
  refine zz_iconst (v := 0) C ddU_init_20 (by decide) ?_
  obtain ⟨h9, h⟩ := gdN h
  refine zz_puti C ddU_init_21 fl_U_18 rfl rfl rfl h9 ?_
  obtain rfl := Option.some.inj h
  exact zz_vret C E ddU_init_24
theorem ddS_init_0 : decode cS_init 0 = .ok (.aload_n 0, 1) := by decide +kernel
theorem ddS_init_1 : decode cS_init 1 = .ok (.invokespecial 3, 3) := by decide +kernel
theorem ddS_init_4 : decode cS_init 4 = .ok (.aload_n 0, 1) := by decide +kernel
theorem ddS_init_5 : decode cS_init 5 = .ok (.bipush 24, 2) := by decide +kernel
theorem ddS_init_7 : decode cS_init 7 = .ok (.newarray .int, 2) := by decide +kernel
theorem ddS_init_9 : decode cS_init 9 = .ok (.putfield 9, 3) := by decide +kernel
theorem ddS_init_12 : decode cS_init 12 = .ok (.aload_n 0, 1) := by decide +kernel
theorem ddS_init_13 : decode cS_init 13 = .ok (.bipush 24, 2) := by decide +kernel
theorem ddS_init_15 : decode cS_init 15 = .ok (.newarray .int, 2) := by decide +kernel
theorem ddS_init_17 : decode cS_init 17 = .ok (.putfield 15, 3) := by decide +kernel
theorem ddS_init_20 : decode cS_init 20 = .ok (.aload_n 0, 1) := by decide +kernel
theorem ddS_init_21 : decode cS_init 21 = .ok (.bipush 24, 2) := by decide +kernel
theorem ddS_init_23 : decode cS_init 23 = .ok (.newarray .int, 2) := by decide +kernel
theorem ddS_init_25 : decode cS_init 25 = .ok (.putfield 18, 3) := by decide +kernel
theorem ddS_init_28 : decode cS_init 28 = .ok (.aload_n 0, 1) := by decide +kernel
theorem ddS_init_29 : decode cS_init 29 = .ok (.iconst 0, 1) := by decide +kernel
theorem ddS_init_30 : decode cS_init 30 = .ok (.putfield 21, 3) := by decide +kernel
theorem ddS_init_33 : decode cS_init 33 = .ok (.return_, 1) := by decide +kernel
set_option maxHeartbeats 8000000 in
set_option maxRecDepth 100000 in
theorem xS_init {G : GXM} {l : Launch} (hG : GokM G) (hg : G.2.2.2.2 = true) (d : Nat) (hd : 1 ≤ d) {v0 : Nat} {M : Mem} {q : Mem} (h : fS_init v0 M = some q) : ExM G l d 3 (72) yS_init cS_init 1 none [.ref v0] M none q := by
  refine ex_of hG (by decide +kernel) (Nat.le_of_ble_eq_true rfl) ?_
  intro X hl C E N hD hn
  have hR := EnM_R E
  show ZM G X 0 [(0, .ref v0)] [] M 0 0
  unfold fS_init at h
  refine zz_aload_n C 0 ddS_init_0 rfl rfl ?_
  refine zz_objInit C ddS_init_1 wd_95 ⟨wd_31, wd_32⟩ (by omega) (Nat.le_of_ble_eq_true rfl) ?_
  refine zz_aload_n C 0 ddS_init_4 rfl rfl ?_
  refine zz_bipush (v := 24) C ddS_init_5 (by decide) ?_
  obtain ⟨q1, hq1, h⟩ := bindN h
  refine zz_newI C ddS_init_7 wd_49 hg (by decide) (by decide) hq1 ⟨by rw [hR]; exact Nat.le_of_ble_eq_true rfl, by rw [hR]; exact Nat.le_of_ble_eq_true rfl⟩ ?_
  refine zz_kn (k1 := 1) (n1 := 24) (by decide) (by decide) ?_
  obtain ⟨h2, h⟩ := gdN h
  obtain ⟨h3, h⟩ := gdN h
  obtain ⟨q4, hq4, h⟩ := bindN h
  refine zz_putrq C ddS_init_9 fl_S_9 (Or.inr ⟨hn, _, rfl, rfl⟩) rfl (fun _ => rfl) (fun _ => rfl) h2 (of_decide_eq_true h3) hq4 ?_
  refine zz_aload_n C 0 ddS_init_12 rfl rfl ?_
  refine zz_bipush (v := 24) C ddS_init_13 (by decide) ?_
  obtain ⟨q5, hq5, h⟩ := bindN h
  refine zz_newI C ddS_init_15 wd_49 hg (by decide) (by decide) hq5 ⟨by rw [hR]; exact Nat.le_of_ble_eq_true rfl, by rw [hR]; exact Nat.le_of_ble_eq_true rfl⟩ ?_
  refine zz_kn (k1 := 2) (n1 := 48) (by decide) (by decide) ?_
  obtain ⟨h6, h⟩ := gdN h
  obtain ⟨h7, h⟩ := gdN h
  obtain ⟨q8, hq8, h⟩ := bindN h
  refine zz_putrq C ddS_init_17 fl_S_15 (Or.inr ⟨hn, _, rfl, rfl⟩) rfl (fun _ => rfl) (fun _ => rfl) h6 (of_decide_eq_true h7) hq8 ?_
  refine zz_aload_n C 0 ddS_init_20 rfl rfl ?_
  refine zz_bipush (v := 24) C ddS_init_21 (by decide) ?_
  obtain ⟨q9, hq9, h⟩ := bindN h
  refine zz_newI C ddS_init_23 wd_49 hg (by decide) (by decide) hq9 ⟨by rw [hR]; exact Nat.le_of_ble_eq_true rfl, by rw [hR]; exact Nat.le_of_ble_eq_true rfl⟩ ?_
  refine zz_kn (k1 := 3) (n1 := 72) (by decide) (by decide) ?_
  obtain ⟨h10, h⟩ := gdN h
  obtain ⟨h11, h⟩ := gdN h
  obtain ⟨q12, hq12, h⟩ := bindN h
  refine zz_putrq C ddS_init_25 fl_S_18 (Or.inr ⟨hn, _, rfl, rfl⟩) rfl (fun _ => rfl) (fun _ => rfl) h10 (of_decide_eq_true h11) hq12 ?_
  refine zz_aload_n C 0 ddS_init_28 rfl rfl ?_
  refine zz_iconst (v := 0) C ddS_init_29 (by decide) ?_
  obtain ⟨h13, h⟩ := gdN h
  refine zz_puti C ddS_init_30 fl_S_21 rfl rfl rfl h13 ?_
  obtain rfl := Option.some.inj h
  exact zz_vret C E ddS_init_33
theorem ddC_init_0 : decode cC_init 0 = .ok (.aload_n 0, 1) := by decide +kernel
theorem ddC_init_1 : decode cC_init 1 = .ok (.invokespecial 3, 3) := by decide +kernel
theorem ddC_init_4 : decode cC_init 4 = .ok (.aload_n 0, 1) := by decide +kernel
theorem ddC_init_5 : decode cC_init 5 = .ok (.iload_n 1, 1) := by decide +kernel
theorem ddC_init_6 : decode cC_init 6 = .ok (.newarray .int, 2) := by decide +kernel
theorem ddC_init_8 : decode cC_init 8 = .ok (.putfield 9, 3) := by decide +kernel
theorem ddC_init_11 : decode cC_init 11 = .ok (.aload_n 0, 1) := by decide +kernel
theorem ddC_init_12 : decode cC_init 12 = .ok (.iload_n 1, 1) := by decide +kernel
theorem ddC_init_13 : decode cC_init 13 = .ok (.newarray .int, 2) := by decide +kernel
theorem ddC_init_15 : decode cC_init 15 = .ok (.putfield 15, 3) := by decide +kernel
theorem ddC_init_18 : decode cC_init 18 = .ok (.aload_n 0, 1) := by decide +kernel
theorem ddC_init_19 : decode cC_init 19 = .ok (.iload_n 2, 1) := by decide +kernel
theorem ddC_init_20 : decode cC_init 20 = .ok (.newarray .int, 2) := by decide +kernel
theorem ddC_init_22 : decode cC_init 22 = .ok (.putfield 18, 3) := by decide +kernel
theorem ddC_init_25 : decode cC_init 25 = .ok (.aload_n 0, 1) := by decide +kernel
theorem ddC_init_26 : decode cC_init 26 = .ok (.iload_n 2, 1) := by decide +kernel
theorem ddC_init_27 : decode cC_init 27 = .ok (.newarray .int, 2) := by decide +kernel
theorem ddC_init_29 : decode cC_init 29 = .ok (.putfield 21, 3) := by decide +kernel
theorem ddC_init_32 : decode cC_init 32 = .ok (.aload_n 0, 1) := by decide +kernel
theorem ddC_init_33 : decode cC_init 33 = .ok (.getfield 9, 3) := by decide +kernel
theorem ddC_init_36 : decode cC_init 36 = .ok (.iconst (-1), 1) := by decide +kernel
theorem ddC_init_37 : decode cC_init 37 = .ok (.invokestatic 24, 3) := by decide +kernel
theorem ddC_init_40 : decode cC_init 40 = .ok (.aload_n 0, 1) := by decide +kernel
theorem ddC_init_41 : decode cC_init 41 = .ok (.getfield 18, 3) := by decide +kernel
theorem ddC_init_44 : decode cC_init 44 = .ok (.iconst (-1), 1) := by decide +kernel
theorem ddC_init_45 : decode cC_init 45 = .ok (.invokestatic 24, 3) := by decide +kernel
theorem ddC_init_48 : decode cC_init 48 = .ok (.aload_n 0, 1) := by decide +kernel
theorem ddC_init_49 : decode cC_init 49 = .ok (.getfield 21, 3) := by decide +kernel
theorem ddC_init_52 : decode cC_init 52 = .ok (.iconst (-1), 1) := by decide +kernel
theorem ddC_init_53 : decode cC_init 53 = .ok (.invokestatic 24, 3) := by decide +kernel
theorem ddC_init_56 : decode cC_init 56 = .ok (.return_, 1) := by decide +kernel
set_option maxHeartbeats 8000000 in
set_option maxRecDepth 100000 in
theorem xC_init {G : GXM} {l : Launch} (hG : GokM G) (hg : G.2.2.2.2 = true) (d : Nat) (hd : 1 ≤ d) {v0 : Nat} {v1 : Int32} {v2 : Int32} {M : Mem} {q : Mem} (h : fC_init v0 v1 v2 M = some q) : ExM G l d 4 (0 + Int32.toNatClampNeg v1 + Int32.toNatClampNeg v1 + Int32.toNatClampNeg v2 + Int32.toNatClampNeg v2) yC_init cC_init 3 none [.ref v0, .int v1, .int v2] M none q := by
  refine ex_of hG (by decide +kernel) (Nat.le_of_ble_eq_true rfl) ?_
  intro X hl C E N hD hn
  have hR := EnM_R E
  show ZM G X 0 [(0, .ref v0), (1, .int v1), (2, .int v2)] [] M 0 0
  unfold fC_init at h
  refine zz_aload_n C 0 ddC_init_0 rfl rfl ?_
  refine zz_objInit C ddC_init_1 wd_129 ⟨wd_31, wd_32⟩ (by omega) (Nat.le_of_ble_eq_true rfl) ?_
  refine zz_aload_n C 0 ddC_init_4 rfl rfl ?_
  refine zz_iload_n C 1 ddC_init_5 rfl rfl ?_
  obtain ⟨h1, h⟩ := gdN h
  obtain ⟨h2, h⟩ := gdN h
  obtain ⟨q3, hq3, h⟩ := bindN h
  refine zz_newI C ddC_init_6 wd_49 hg (of_decide_eq_true h1) (of_decide_eq_true h2) hq3 ⟨by rw [hR]; exact Nat.le_of_ble_eq_true rfl, by rw [hR]; show _ ≤ 0 + Int32.toNatClampNeg v1 + Int32.toNatClampNeg v1 + Int32.toNatClampNeg v2 + Int32.toNatClampNeg v2; omega⟩ ?_
  obtain ⟨h4, h⟩ := gdN h
  obtain ⟨h5, h⟩ := gdN h
  obtain ⟨q6, hq6, h⟩ := bindN h
  refine zz_putrq C ddC_init_8 fl_C_9 (Or.inr ⟨hn, _, rfl, rfl⟩) rfl (fun _ => rfl) (fun _ => rfl) h4 (of_decide_eq_true h5) hq6 ?_
  refine zz_aload_n C 0 ddC_init_11 rfl rfl ?_
  refine zz_iload_n C 1 ddC_init_12 rfl rfl ?_
  obtain ⟨h7, h⟩ := gdN h
  obtain ⟨h8, h⟩ := gdN h
  obtain ⟨q9, hq9, h⟩ := bindN h
  refine zz_newI C ddC_init_13 wd_49 hg (of_decide_eq_true h7) (of_decide_eq_true h8) hq9 ⟨by rw [hR]; exact Nat.le_of_ble_eq_true rfl, by rw [hR]; show _ ≤ 0 + Int32.toNatClampNeg v1 + Int32.toNatClampNeg v1 + Int32.toNatClampNeg v2 + Int32.toNatClampNeg v2; omega⟩ ?_
  obtain ⟨h10, h⟩ := gdN h
  obtain ⟨h11, h⟩ := gdN h
  obtain ⟨q12, hq12, h⟩ := bindN h
  refine zz_putrq C ddC_init_15 fl_C_15 (Or.inr ⟨hn, _, rfl, rfl⟩) rfl (fun _ => rfl) (fun _ => rfl) h10 (of_decide_eq_true h11) hq12 ?_
  refine zz_aload_n C 0 ddC_init_18 rfl rfl ?_
  refine zz_iload_n C 2 ddC_init_19 rfl rfl ?_
  obtain ⟨h13, h⟩ := gdN h
  obtain ⟨h14, h⟩ := gdN h
  obtain ⟨q15, hq15, h⟩ := bindN h
  refine zz_newI C ddC_init_20 wd_49 hg (of_decide_eq_true h13) (of_decide_eq_true h14) hq15 ⟨by rw [hR]; exact Nat.le_of_ble_eq_true rfl, by rw [hR]; show _ ≤ 0 + Int32.toNatClampNeg v1 + Int32.toNatClampNeg v1 + Int32.toNatClampNeg v2 + Int32.toNatClampNeg v2; omega⟩ ?_
  obtain ⟨h16, h⟩ := gdN h
  obtain ⟨h17, h⟩ := gdN h
  obtain ⟨q18, hq18, h⟩ := bindN h
  refine zz_putrq C ddC_init_22 fl_C_18 (Or.inr ⟨hn, _, rfl, rfl⟩) rfl (fun _ => rfl) (fun _ => rfl) h16 (of_decide_eq_true h17) hq18 ?_
  refine zz_aload_n C 0 ddC_init_25 rfl rfl ?_
  refine zz_iload_n C 2 ddC_init_26 rfl rfl ?_
  obtain ⟨h19, h⟩ := gdN h
  obtain ⟨h20, h⟩ := gdN h
  obtain ⟨q21, hq21, h⟩ := bindN h
  refine zz_newI C ddC_init_27 wd_49 hg (of_decide_eq_true h19) (of_decide_eq_true h20) hq21 ⟨by rw [hR]; exact Nat.le_of_ble_eq_true rfl, by rw [hR]; show _ ≤ 0 + Int32.toNatClampNeg v1 + Int32.toNatClampNeg v1 + Int32.toNatClampNeg v2 + Int32.toNatClampNeg v2; omega⟩ ?_
  obtain ⟨h22, h⟩ := gdN h
  obtain ⟨h23, h⟩ := gdN h
  obtain ⟨q24, hq24, h⟩ := bindN h
  refine zz_putrq C ddC_init_29 fl_C_21 (Or.inr ⟨hn, _, rfl, rfl⟩) rfl (fun _ => rfl) (fun _ => rfl) h22 (of_decide_eq_true h23) hq24 ?_
  refine zz_aload_n C 0 ddC_init_32 rfl rfl ?_
  obtain ⟨h25, h⟩ := gdN h
  obtain ⟨h26, h⟩ := gdN h
  refine zz_getr C ddC_init_33 fl_C_9 rfl h25 (of_decide_eq_true h26) ?_
  refine zz_iconst (v := (-1)) C ddC_init_36 (by decide) ?_
  obtain ⟨q27, hq27, h⟩ := bindN h
  refine zz_callSk (As := [.ref (grM q24 v0 0), .int ((-1))]) C ddC_init_37 wd_130 my_Y_fill mv_Y_fill (xY_fill hG (d - 1) (by omega) hq27) (by omega) rfl rfl (Nat.le_of_ble_eq_true rfl) ⟨by rw [hR]; exact Nat.le_of_ble_eq_true rfl, by rw [hR]; show _ ≤ 0 + Int32.toNatClampNeg v1 + Int32.toNatClampNeg v1 + Int32.toNatClampNeg v2 + Int32.toNatClampNeg v2; omega⟩ ?_
  refine zz_aload_n C 0 ddC_init_40 rfl rfl ?_
  obtain ⟨h28, h⟩ := gdN h
  obtain ⟨h29, h⟩ := gdN h
  refine zz_getr C ddC_init_41 fl_C_18 rfl h28 (of_decide_eq_true h29) ?_
  refine zz_iconst (v := (-1)) C ddC_init_44 (by decide) ?_
  obtain ⟨q30, hq30, h⟩ := bindN h
  refine zz_callSk (As := [.ref (grM q27 v0 2), .int ((-1))]) C ddC_init_45 wd_130 my_Y_fill mv_Y_fill (xY_fill hG (d - 1) (by omega) hq30) (by omega) rfl rfl (Nat.le_of_ble_eq_true rfl) ⟨by rw [hR]; exact Nat.le_of_ble_eq_true rfl, by rw [hR]; show _ ≤ 0 + Int32.toNatClampNeg v1 + Int32.toNatClampNeg v1 + Int32.toNatClampNeg v2 + Int32.toNatClampNeg v2; omega⟩ ?_
  refine zz_aload_n C 0 ddC_init_48 rfl rfl ?_
  obtain ⟨h31, h⟩ := gdN h
  obtain ⟨h32, h⟩ := gdN h
  refine zz_getr C ddC_init_49 fl_C_21 rfl h31 (of_decide_eq_true h32) ?_
  refine zz_iconst (v := (-1)) C ddC_init_52 (by decide) ?_
  obtain ⟨q33, hq33, h⟩ := bindN h
  refine zz_callSk (As := [.ref (grM q30 v0 3), .int ((-1))]) C ddC_init_53 wd_130 my_Y_fill mv_Y_fill (xY_fill hG (d - 1) (by omega) hq33) (by omega) rfl rfl (Nat.le_of_ble_eq_true rfl) ⟨by rw [hR]; exact Nat.le_of_ble_eq_true rfl, by rw [hR]; show _ ≤ 0 + Int32.toNatClampNeg v1 + Int32.toNatClampNeg v1 + Int32.toNatClampNeg v2 + Int32.toNatClampNeg v2; omega⟩ ?_
  obtain rfl := Option.some.inj h
  exact zz_vret C E ddC_init_56
theorem ddL_init_0 : decode cL_init 0 = .ok (.aload_n 0, 1) := by decide +kernel
theorem ddL_init_1 : decode cL_init 1 = .ok (.invokespecial 3, 3) := by decide +kernel
theorem ddL_init_4 : decode cL_init 4 = .ok (.aload_n 0, 1) := by decide +kernel
theorem ddL_init_5 : decode cL_init 5 = .ok (.bipush 60, 2) := by decide +kernel
theorem ddL_init_7 : decode cL_init 7 = .ok (.newarray .int, 2) := by decide +kernel
theorem ddL_init_9 : decode cL_init 9 = .ok (.putfield 9, 3) := by decide +kernel
theorem ddL_init_12 : decode cL_init 12 = .ok (.aload_n 0, 1) := by decide +kernel
theorem ddL_init_13 : decode cL_init 13 = .ok (.iconst 0, 1) := by decide +kernel
theorem ddL_init_14 : decode cL_init 14 = .ok (.putfield 15, 3) := by decide +kernel
theorem ddL_init_17 : decode cL_init 17 = .ok (.return_, 1) := by decide +kernel
set_option maxHeartbeats 8000000 in
set_option maxRecDepth 100000 in
theorem xL_init {G : GXM} {l : Launch} (hG : GokM G) (hg : G.2.2.2.2 = true) (d : Nat) (hd : 1 ≤ d) {v0 : Nat} {M : Mem} {q : Mem} (h : fL_init v0 M = some q) : ExM G l d 1 (60) yL_init cL_init 1 none [.ref v0] M none q := by
  refine ex_of hG (by decide +kernel) (Nat.le_of_ble_eq_true rfl) ?_
  intro X hl C E N hD hn
  have hR := EnM_R E
  show ZM G X 0 [(0, .ref v0)] [] M 0 0
  unfold fL_init at h
  refine zz_aload_n C 0 ddL_init_0 rfl rfl ?_
  refine zz_objInit C ddL_init_1 wd_157 ⟨wd_31, wd_32⟩ (by omega) (Nat.le_of_ble_eq_true rfl) ?_
  refine zz_aload_n C 0 ddL_init_4 rfl rfl ?_
  refine zz_bipush (v := 60) C ddL_init_5 (by decide) ?_
  obtain ⟨q1, hq1, h⟩ := bindN h
  refine zz_newI C ddL_init_7 wd_49 hg (by decide) (by decide) hq1 ⟨by rw [hR]; exact Nat.le_of_ble_eq_true rfl, by rw [hR]; exact Nat.le_of_ble_eq_true rfl⟩ ?_
  refine zz_kn (k1 := 1) (n1 := 60) (by decide) (by decide) ?_
  obtain ⟨h2, h⟩ := gdN h
  obtain ⟨h3, h⟩ := gdN h
  obtain ⟨q4, hq4, h⟩ := bindN h
  refine zz_putrq C ddL_init_9 fl_L_9 (Or.inr ⟨hn, _, rfl, rfl⟩) rfl (fun _ => rfl) (fun _ => rfl) h2 (of_decide_eq_true h3) hq4 ?_
  refine zz_aload_n C 0 ddL_init_12 rfl rfl ?_
  refine zz_iconst (v := 0) C ddL_init_13 (by decide) ?_
  obtain ⟨h5, h⟩ := gdN h
  refine zz_puti C ddL_init_14 fl_L_15 rfl rfl rfl h5 ?_
  obtain rfl := Option.some.inj h
  exact zz_vret C E ddL_init_17
theorem ddH_init_0 : decode cH_init 0 = .ok (.aload_n 0, 1) := by decide +kernel
theorem ddH_init_1 : decode cH_init 1 = .ok (.invokespecial 3, 3) := by decide +kernel
theorem ddH_init_4 : decode cH_init 4 = .ok (.aload_n 0, 1) := by decide +kernel
theorem ddH_init_5 : decode cH_init 5 = .ok (.bipush 16, 2) := by decide +kernel
theorem ddH_init_7 : decode cH_init 7 = .ok (.newarray .int, 2) := by decide +kernel
theorem ddH_init_9 : decode cH_init 9 = .ok (.putfield 9, 3) := by decide +kernel
theorem ddH_init_12 : decode cH_init 12 = .ok (.aload_n 0, 1) := by decide +kernel
theorem ddH_init_13 : decode cH_init 13 = .ok (.bipush 16, 2) := by decide +kernel
theorem ddH_init_15 : decode cH_init 15 = .ok (.newarray .int, 2) := by decide +kernel
theorem ddH_init_17 : decode cH_init 17 = .ok (.putfield 15, 3) := by decide +kernel
theorem ddH_init_20 : decode cH_init 20 = .ok (.aload_n 0, 1) := by decide +kernel
theorem ddH_init_21 : decode cH_init 21 = .ok (.bipush 16, 2) := by decide +kernel
theorem ddH_init_23 : decode cH_init 23 = .ok (.newarray .int, 2) := by decide +kernel
theorem ddH_init_25 : decode cH_init 25 = .ok (.putfield 18, 3) := by decide +kernel
theorem ddH_init_28 : decode cH_init 28 = .ok (.aload_n 0, 1) := by decide +kernel
theorem ddH_init_29 : decode cH_init 29 = .ok (.new 21, 3) := by decide +kernel
theorem ddH_init_32 : decode cH_init 32 = .ok (.dup, 1) := by decide +kernel
theorem ddH_init_33 : decode cH_init 33 = .ok (.bipush 24, 2) := by decide +kernel
theorem ddH_init_35 : decode cH_init 35 = .ok (.bipush 16, 2) := by decide +kernel
theorem ddH_init_37 : decode cH_init 37 = .ok (.invokespecial 23, 3) := by decide +kernel
theorem ddH_init_40 : decode cH_init 40 = .ok (.putfield 26, 3) := by decide +kernel
theorem ddH_init_43 : decode cH_init 43 = .ok (.aload_n 0, 1) := by decide +kernel
theorem ddH_init_44 : decode cH_init 44 = .ok (.new 21, 3) := by decide +kernel
theorem ddH_init_47 : decode cH_init 47 = .ok (.dup, 1) := by decide +kernel
theorem ddH_init_48 : decode cH_init 48 = .ok (.bipush 112, 2) := by decide +kernel
theorem ddH_init_50 : decode cH_init 50 = .ok (.sipush 640, 3) := by decide +kernel
theorem ddH_init_53 : decode cH_init 53 = .ok (.invokespecial 23, 3) := by decide +kernel
theorem ddH_init_56 : decode cH_init 56 = .ok (.putfield 30, 3) := by decide +kernel
theorem ddH_init_59 : decode cH_init 59 = .ok (.aload_n 0, 1) := by decide +kernel
theorem ddH_init_60 : decode cH_init 60 = .ok (.iconst 4, 1) := by decide +kernel
theorem ddH_init_61 : decode cH_init 61 = .ok (.newarray .int, 2) := by decide +kernel
theorem ddH_init_63 : decode cH_init 63 = .ok (.putfield 33, 3) := by decide +kernel
theorem ddH_init_66 : decode cH_init 66 = .ok (.aload_n 0, 1) := by decide +kernel
theorem ddH_init_67 : decode cH_init 67 = .ok (.iconst 4, 1) := by decide +kernel
theorem ddH_init_68 : decode cH_init 68 = .ok (.newarray .int, 2) := by decide +kernel
theorem ddH_init_70 : decode cH_init 70 = .ok (.putfield 36, 3) := by decide +kernel
theorem ddH_init_73 : decode cH_init 73 = .ok (.aload_n 0, 1) := by decide +kernel
theorem ddH_init_74 : decode cH_init 74 = .ok (.new 39, 3) := by decide +kernel
theorem ddH_init_77 : decode cH_init 77 = .ok (.dup, 1) := by decide +kernel
theorem ddH_init_78 : decode cH_init 78 = .ok (.invokespecial 41, 3) := by decide +kernel
theorem ddH_init_81 : decode cH_init 81 = .ok (.putfield 42, 3) := by decide +kernel
theorem ddH_init_84 : decode cH_init 84 = .ok (.aload_n 0, 1) := by decide +kernel
theorem ddH_init_85 : decode cH_init 85 = .ok (.aload_n 1, 1) := by decide +kernel
theorem ddH_init_86 : decode cH_init 86 = .ok (.putfield 46, 3) := by decide +kernel
theorem ddH_init_89 : decode cH_init 89 = .ok (.aload_n 0, 1) := by decide +kernel
theorem ddH_init_90 : decode cH_init 90 = .ok (.getfield 9, 3) := by decide +kernel
theorem ddH_init_93 : decode cH_init 93 = .ok (.iconst (-1), 1) := by decide +kernel
theorem ddH_init_94 : decode cH_init 94 = .ok (.invokestatic 50, 3) := by decide +kernel
theorem ddH_init_97 : decode cH_init 97 = .ok (.aload_n 0, 1) := by decide +kernel
theorem ddH_init_98 : decode cH_init 98 = .ok (.getfield 15, 3) := by decide +kernel
theorem ddH_init_101 : decode cH_init 101 = .ok (.iconst (-1), 1) := by decide +kernel
theorem ddH_init_102 : decode cH_init 102 = .ok (.invokestatic 50, 3) := by decide +kernel
theorem ddH_init_105 : decode cH_init 105 = .ok (.aload_n 0, 1) := by decide +kernel
theorem ddH_init_106 : decode cH_init 106 = .ok (.getfield 33, 3) := by decide +kernel
theorem ddH_init_109 : decode cH_init 109 = .ok (.iconst 1, 1) := by decide +kernel
theorem ddH_init_110 : decode cH_init 110 = .ok (.invokestatic 50, 3) := by decide +kernel
theorem ddH_init_113 : decode cH_init 113 = .ok (.return_, 1) := by decide +kernel
set_option maxHeartbeats 8000000 in
set_option maxRecDepth 100000 in
theorem xH_init {G : GXM} {l : Launch} (hG : GokM G) (hg : G.2.2.2.2 = true) (d : Nat) (hd : 2 ≤ d) {v0 : Nat} {v1 : Nat} {M : Mem} {q : Mem} (h : fH_init v0 v1 M = some q) : ExM G l d 17 (1710) yH_init cH_init 2 none [.ref v0, .ref v1] M none q := by
  refine ex_of hG (by decide +kernel) (Nat.le_of_ble_eq_true rfl) ?_
  intro X hl C E N hD hn
  have hR := EnM_R E
  show ZM G X 0 [(0, .ref v0), (1, .ref v1)] [] M 0 0
  unfold fH_init at h
  refine zz_aload_n C 0 ddH_init_0 rfl rfl ?_
  refine zz_objInit C ddH_init_1 wd_123 ⟨wd_31, wd_32⟩ (by omega) (Nat.le_of_ble_eq_true rfl) ?_
  refine zz_aload_n C 0 ddH_init_4 rfl rfl ?_
  refine zz_bipush (v := 16) C ddH_init_5 (by decide) ?_
  obtain ⟨q1, hq1, h⟩ := bindN h
  refine zz_newI C ddH_init_7 wd_49 hg (by decide) (by decide) hq1 ⟨by rw [hR]; exact Nat.le_of_ble_eq_true rfl, by rw [hR]; exact Nat.le_of_ble_eq_true rfl⟩ ?_
  refine zz_kn (k1 := 1) (n1 := 16) (by decide) (by decide) ?_
  obtain ⟨h2, h⟩ := gdN h
  obtain ⟨h3, h⟩ := gdN h
  obtain ⟨q4, hq4, h⟩ := bindN h
  refine zz_putrq C ddH_init_9 fl_H_9 (Or.inr ⟨hn, _, rfl, rfl⟩) rfl (fun _ => rfl) (fun _ => rfl) h2 (of_decide_eq_true h3) hq4 ?_
  refine zz_aload_n C 0 ddH_init_12 rfl rfl ?_
  refine zz_bipush (v := 16) C ddH_init_13 (by decide) ?_
  obtain ⟨q5, hq5, h⟩ := bindN h
  refine zz_newI C ddH_init_15 wd_49 hg (by decide) (by decide) hq5 ⟨by rw [hR]; exact Nat.le_of_ble_eq_true rfl, by rw [hR]; exact Nat.le_of_ble_eq_true rfl⟩ ?_
  refine zz_kn (k1 := 2) (n1 := 32) (by decide) (by decide) ?_
  obtain ⟨h6, h⟩ := gdN h
  obtain ⟨h7, h⟩ := gdN h
  obtain ⟨q8, hq8, h⟩ := bindN h
  refine zz_putrq C ddH_init_17 fl_H_15 (Or.inr ⟨hn, _, rfl, rfl⟩) rfl (fun _ => rfl) (fun _ => rfl) h6 (of_decide_eq_true h7) hq8 ?_
  refine zz_aload_n C 0 ddH_init_20 rfl rfl ?_
  refine zz_bipush (v := 16) C ddH_init_21 (by decide) ?_
  obtain ⟨q9, hq9, h⟩ := bindN h
  refine zz_newI C ddH_init_23 wd_49 hg (by decide) (by decide) hq9 ⟨by rw [hR]; exact Nat.le_of_ble_eq_true rfl, by rw [hR]; exact Nat.le_of_ble_eq_true rfl⟩ ?_
  refine zz_kn (k1 := 3) (n1 := 48) (by decide) (by decide) ?_
  obtain ⟨h10, h⟩ := gdN h
  obtain ⟨h11, h⟩ := gdN h
  obtain ⟨q12, hq12, h⟩ := bindN h
  refine zz_putrq C ddH_init_25 fl_H_18 (Or.inr ⟨hn, _, rfl, rfl⟩) rfl (fun _ => rfl) (fun _ => rfl) h10 (of_decide_eq_true h11) hq12 ?_
  refine zz_aload_n C 0 ddH_init_28 rfl rfl ?_
  obtain ⟨q13, hq13, h⟩ := bindN h
  refine zz_new C ddH_init_29 (t := 0) rfl rfl ⟨wd_124, wd_125, wd_7⟩ hg hq13 ⟨by rw [hR]; exact Nat.le_of_ble_eq_true rfl, by rw [hR]; exact Nat.le_of_ble_eq_true rfl⟩ ?_
  refine zz_kn (k1 := 4) (n1 := 52) (by decide) (by decide) ?_
  refine zz_dup C ddH_init_32 rfl ?_
  refine zz_bipush (v := 24) C ddH_init_33 (by decide) ?_
  refine zz_bipush (v := 16) C ddH_init_35 (by decide) ?_
  obtain ⟨q14, hq14, h⟩ := bindN h
  refine zz_callI (As := [.int 24, .int 16]) C ddH_init_37 wd_126 my_C_init ⟨rfl, mi_C_init⟩ (xC_init hG hg (d - 1) (by omega) hq14) (by omega) rfl rfl (Nat.le_of_ble_eq_true rfl) ⟨by rw [hR]; exact Nat.le_of_ble_eq_true rfl, by rw [hR]; exact Nat.le_of_ble_eq_true rfl⟩ ?_
  refine zz_kn (k1 := 8) (n1 := 132) (by decide) (by decide) ?_
  obtain ⟨h15, h⟩ := gdN h
  obtain ⟨h16, h⟩ := gdN h
  obtain ⟨q17, hq17, h⟩ := bindN h
  refine zz_putrq C ddH_init_40 fl_H_26 (Or.inr ⟨hn, _, rfl, rfl⟩) rfl (fun _ => rfl) (fun _ => rfl) h15 (of_decide_eq_true h16) hq17 ?_
  refine zz_aload_n C 0 ddH_init_43 rfl rfl ?_
  obtain ⟨q18, hq18, h⟩ := bindN h
  refine zz_new C ddH_init_44 (t := 0) rfl rfl ⟨wd_124, wd_125, wd_7⟩ hg hq18 ⟨by rw [hR]; exact Nat.le_of_ble_eq_true rfl, by rw [hR]; exact Nat.le_of_ble_eq_true rfl⟩ ?_
  refine zz_kn (k1 := 9) (n1 := 136) (by decide) (by decide) ?_
  refine zz_dup C ddH_init_47 rfl ?_
  refine zz_bipush (v := 112) C ddH_init_48 (by decide) ?_
  refine zz_sipush (v := 640) C ddH_init_50 (by decide) ?_
  obtain ⟨q19, hq19, h⟩ := bindN h
  refine zz_callI (As := [.int 112, .int 640]) C ddH_init_53 wd_126 my_C_init ⟨rfl, mi_C_init⟩ (xC_init hG hg (d - 1) (by omega) hq19) (by omega) rfl rfl (Nat.le_of_ble_eq_true rfl) ⟨by rw [hR]; exact Nat.le_of_ble_eq_true rfl, by rw [hR]; exact Nat.le_of_ble_eq_true rfl⟩ ?_
  refine zz_kn (k1 := 13) (n1 := 1640) (by decide) (by decide) ?_
  obtain ⟨h20, h⟩ := gdN h
  obtain ⟨h21, h⟩ := gdN h
  obtain ⟨q22, hq22, h⟩ := bindN h
  refine zz_putrq C ddH_init_56 fl_H_30 (Or.inr ⟨hn, _, rfl, rfl⟩) rfl (fun _ => rfl) (fun _ => rfl) h20 (of_decide_eq_true h21) hq22 ?_
  refine zz_aload_n C 0 ddH_init_59 rfl rfl ?_
  refine zz_iconst (v := 4) C ddH_init_60 (by decide) ?_
  obtain ⟨q23, hq23, h⟩ := bindN h
  refine zz_newI C ddH_init_61 wd_49 hg (by decide) (by decide) hq23 ⟨by rw [hR]; exact Nat.le_of_ble_eq_true rfl, by rw [hR]; exact Nat.le_of_ble_eq_true rfl⟩ ?_
  refine zz_kn (k1 := 14) (n1 := 1644) (by decide) (by decide) ?_
  obtain ⟨h24, h⟩ := gdN h
  obtain ⟨h25, h⟩ := gdN h
  obtain ⟨q26, hq26, h⟩ := bindN h
  refine zz_putrq C ddH_init_63 fl_H_33 (Or.inr ⟨hn, _, rfl, rfl⟩) rfl (fun _ => rfl) (fun _ => rfl) h24 (of_decide_eq_true h25) hq26 ?_
  refine zz_aload_n C 0 ddH_init_66 rfl rfl ?_
  refine zz_iconst (v := 4) C ddH_init_67 (by decide) ?_
  obtain ⟨q27, hq27, h⟩ := bindN h
  refine zz_newI C ddH_init_68 wd_49 hg (by decide) (by decide) hq27 ⟨by rw [hR]; exact Nat.le_of_ble_eq_true rfl, by rw [hR]; exact Nat.le_of_ble_eq_true rfl⟩ ?_
  refine zz_kn (k1 := 15) (n1 := 1648) (by decide) (by decide) ?_
  obtain ⟨h28, h⟩ := gdN h
  obtain ⟨h29, h⟩ := gdN h
  obtain ⟨q30, hq30, h⟩ := bindN h
  refine zz_putrq C ddH_init_70 fl_H_36 (Or.inr ⟨hn, _, rfl, rfl⟩) rfl (fun _ => rfl) (fun _ => rfl) h28 (of_decide_eq_true h29) hq30 ?_
  refine zz_aload_n C 0 ddH_init_73 rfl rfl ?_
  obtain ⟨q31, hq31, h⟩ := bindN h
  refine zz_new C ddH_init_74 (t := 2) rfl rfl ⟨wd_152, wd_153, wd_9⟩ hg hq31 ⟨by rw [hR]; exact Nat.le_of_ble_eq_true rfl, by rw [hR]; exact Nat.le_of_ble_eq_true rfl⟩ ?_
  refine zz_kn (k1 := 16) (n1 := 1650) (by decide) (by decide) ?_
  refine zz_dup C ddH_init_77 rfl ?_
  obtain ⟨q32, hq32, h⟩ := bindN h
  refine zz_callIN (As := []) C ddH_init_78 wd_154 my_L_init ⟨rfl, mi_L_init⟩ (xL_init hG hg (d - 1) (by omega) hq32) (by omega) rfl rfl (Nat.le_of_ble_eq_true rfl) ⟨by rw [hR]; exact Nat.le_of_ble_eq_true rfl, by rw [hR]; exact Nat.le_of_ble_eq_true rfl⟩ ?_
  refine zz_kn (k1 := 17) (n1 := 1710) (by decide) (by decide) ?_
  obtain ⟨h33, h⟩ := gdN h
  obtain ⟨h34, h⟩ := gdN h
  obtain ⟨q35, hq35, h⟩ := bindN h
  refine zz_putrq C ddH_init_81 fl_H_42 (Or.inr ⟨hn, _, rfl, rfl⟩) rfl (fun _ => rfl) (fun _ => rfl) h33 (of_decide_eq_true h34) hq35 ?_
  refine zz_aload_n C 0 ddH_init_84 rfl rfl ?_
  refine zz_aload_n C 1 ddH_init_85 rfl rfl ?_
  obtain ⟨h36, h⟩ := gdN h
  obtain ⟨h37, h⟩ := gdN h
  obtain ⟨q38, hq38, h⟩ := bindN h
  refine zz_putrq C ddH_init_86 fl_H_46 (Or.inr ⟨hn, _, rfl, rfl⟩) rfl (fun _ => rfl) (fun _ => rfl) h36 (of_decide_eq_true h37) hq38 ?_
  refine zz_aload_n C 0 ddH_init_89 rfl rfl ?_
  obtain ⟨h39, h⟩ := gdN h
  obtain ⟨h40, h⟩ := gdN h
  refine zz_getr C ddH_init_90 fl_H_9 rfl h39 (of_decide_eq_true h40) ?_
  refine zz_iconst (v := (-1)) C ddH_init_93 (by decide) ?_
  obtain ⟨q41, hq41, h⟩ := bindN h
  refine zz_callSk (As := [.ref (grM q38 v0 1), .int ((-1))]) C ddH_init_94 wd_166 my_Y_fill mv_Y_fill (xY_fill hG (d - 1) (by omega) hq41) (by omega) rfl rfl (Nat.le_of_ble_eq_true rfl) ⟨by rw [hR]; exact Nat.le_of_ble_eq_true rfl, by rw [hR]; exact Nat.le_of_ble_eq_true rfl⟩ ?_
  refine zz_aload_n C 0 ddH_init_97 rfl rfl ?_
  obtain ⟨h42, h⟩ := gdN h
  obtain ⟨h43, h⟩ := gdN h
  refine zz_getr C ddH_init_98 fl_H_15 rfl h42 (of_decide_eq_true h43) ?_
  refine zz_iconst (v := (-1)) C ddH_init_101 (by decide) ?_
  obtain ⟨q44, hq44, h⟩ := bindN h
  refine zz_callSk (As := [.ref (grM q41 v0 2), .int ((-1))]) C ddH_init_102 wd_166 my_Y_fill mv_Y_fill (xY_fill hG (d - 1) (by omega) hq44) (by omega) rfl rfl (Nat.le_of_ble_eq_true rfl) ⟨by rw [hR]; exact Nat.le_of_ble_eq_true rfl, by rw [hR]; exact Nat.le_of_ble_eq_true rfl⟩ ?_
  refine zz_aload_n C 0 ddH_init_105 rfl rfl ?_
  obtain ⟨h45, h⟩ := gdN h
  obtain ⟨h46, h⟩ := gdN h
  refine zz_getr C ddH_init_106 fl_H_33 rfl h45 (of_decide_eq_true h46) ?_
  refine zz_iconst (v := 1) C ddH_init_109 (by decide) ?_
  obtain ⟨q47, hq47, h⟩ := bindN h
  refine zz_callSk (As := [.ref (grM q44 v0 6), .int 1]) C ddH_init_110 wd_166 my_Y_fill mv_Y_fill (xY_fill hG (d - 1) (by omega) hq47) (by omega) rfl rfl (Nat.le_of_ble_eq_true rfl) ⟨by rw [hR]; exact Nat.le_of_ble_eq_true rfl, by rw [hR]; exact Nat.le_of_ble_eq_true rfl⟩ ?_
  obtain rfl := Option.some.inj h
  exact zz_vret C E ddH_init_113
theorem ddP_init_0 : decode cP_init 0 = .ok (.aload_n 0, 1) := by decide +kernel
theorem ddP_init_1 : decode cP_init 1 = .ok (.invokespecial 3, 3) := by decide +kernel
theorem ddP_init_4 : decode cP_init 4 = .ok (.aload_n 0, 1) := by decide +kernel
theorem ddP_init_5 : decode cP_init 5 = .ok (.bipush 40, 2) := by decide +kernel
theorem ddP_init_7 : decode cP_init 7 = .ok (.anewarray 9, 3) := by decide +kernel
theorem ddP_init_10 : decode cP_init 10 = .ok (.putfield 11, 3) := by decide +kernel
theorem ddP_init_13 : decode cP_init 13 = .ok (.iconst 0, 1) := by decide +kernel
theorem ddP_init_14 : decode cP_init 14 = .ok (.istore_n 2, 1) := by decide +kernel
theorem ddP_init_15 : decode cP_init 15 = .ok (.iload_n 2, 1) := by decide +kernel
theorem ddP_init_16 : decode cP_init 16 = .ok (.bipush 40, 2) := by decide +kernel
theorem ddP_init_18 : decode cP_init 18 = .ok (.if_icmp .ge 23, 3) := by decide +kernel
theorem ddP_init_21 : decode cP_init 21 = .ok (.aload_n 0, 1) := by decide +kernel
theorem ddP_init_22 : decode cP_init 22 = .ok (.getfield 11, 3) := by decide +kernel
theorem ddP_init_25 : decode cP_init 25 = .ok (.iload_n 2, 1) := by decide +kernel
theorem ddP_init_26 : decode cP_init 26 = .ok (.new 9, 3) := by decide +kernel
theorem ddP_init_29 : decode cP_init 29 = .ok (.dup, 1) := by decide +kernel
theorem ddP_init_30 : decode cP_init 30 = .ok (.aload_n 1, 1) := by decide +kernel
theorem ddP_init_31 : decode cP_init 31 = .ok (.invokespecial 17, 3) := by decide +kernel
theorem ddP_init_34 : decode cP_init 34 = .ok (.aastore, 1) := by decide +kernel
theorem ddP_init_35 : decode cP_init 35 = .ok (.iinc 2 1, 3) := by decide +kernel
theorem ddP_init_38 : decode cP_init 38 = .ok (.goto (-23), 3) := by decide +kernel
theorem ddP_init_41 : decode cP_init 41 = .ok (.aload_n 0, 1) := by decide +kernel
theorem ddP_init_42 : decode cP_init 42 = .ok (.iconst 0, 1) := by decide +kernel
theorem ddP_init_43 : decode cP_init 43 = .ok (.putfield 20, 3) := by decide +kernel
theorem ddP_init_46 : decode cP_init 46 = .ok (.aload_n 0, 1) := by decide +kernel
theorem ddP_init_47 : decode cP_init 47 = .ok (.iconst 0, 1) := by decide +kernel
theorem ddP_init_48 : decode cP_init 48 = .ok (.putfield 24, 3) := by decide +kernel
theorem ddP_init_51 : decode cP_init 51 = .ok (.return_, 1) := by decide +kernel
set_option maxHeartbeats 8000000 in
set_option maxRecDepth 100000 in
theorem xP_init {G : GXM} {l : Launch} (hG : GokM G) (hg : G.2.2.2.2 = true) (d : Nat) (hd : 3 ≤ d) {v0 : Nat} {v1 : Nat} {M : Mem} {q : Mem} (h : fP_init v0 v1 M = some q) : ExM G l d 721 (68800) yP_init cP_init 3 none [.ref v0, .ref v1] M none q := by
  refine ex_of hG (by decide +kernel) (Nat.le_of_ble_eq_true rfl) ?_
  intro X hl C E N hD hn
  have hR := EnM_R E
  show ZM G X 0 [(0, .ref v0), (1, .ref v1)] [] M 0 0
  unfold fP_init at h
  refine zz_aload_n C 0 ddP_init_0 rfl rfl ?_
  refine zz_objInit C ddP_init_1 wd_206 ⟨wd_31, wd_32⟩ (by omega) (Nat.le_of_ble_eq_true rfl) ?_
  refine zz_aload_n C 0 ddP_init_4 rfl rfl ?_
  refine zz_bipush (v := 40) C ddP_init_5 (by decide) ?_
  obtain ⟨q1, hq1, h⟩ := bindN h
  refine zz_newR (t := 103) C ddP_init_7 wd_207 wd_208 (by decide) (fun _ => rfl) hg (by decide) (by decide) hq1 ⟨by rw [hR]; exact Nat.le_of_ble_eq_true rfl, by rw [hR]; exact Nat.le_of_ble_eq_true rfl⟩ ?_
  refine zz_kn (k1 := 1) (n1 := 40) (by decide) (by decide) ?_
  obtain ⟨h2, h⟩ := gdN h
  obtain ⟨h3, h⟩ := gdN h
  obtain ⟨q4, hq4, h⟩ := bindN h
  refine zz_putrq C ddP_init_10 fl_P_11 (Or.inr ⟨hn, _, rfl, rfl⟩) rfl (fun _ => rfl) (fun _ => rfl) h2 (of_decide_eq_true h3) hq4 ?_
  refine zz_iconst (v := 0) C ddP_init_13 (by decide) ?_
  refine zz_istore_n (L1 := [(2, .int 0), (0, .ref v0), (1, .ref v1)]) C ddP_init_14 rfl N (by decide) rfl ?_
  refine zz_iload_n C 0 ddP_init_15 rfl rfl ?_
  refine zz_bipush (v := 40) C ddP_init_16 (by decide) ?_
  refine zz_icmp_ge (tgt := 41) C ddP_init_18 rfl (fun hc => absurd hc (by decide)) (fun hc => ?_)
  refine zz_aload_n C 1 ddP_init_21 rfl rfl ?_
  obtain ⟨h5, h⟩ := gdN h
  obtain ⟨h6, h⟩ := gdN h
  refine zz_getr C ddP_init_22 fl_P_11 rfl h5 (of_decide_eq_true h6) ?_
  refine zz_iload_n C 0 ddP_init_25 rfl rfl ?_
  obtain ⟨q7, hq7, h⟩ := bindN h
  refine zz_new C ddP_init_26 (t := 1) rfl rfl ⟨wd_207, wd_119, wd_6⟩ hg hq7 ⟨by rw [hR]; exact Nat.le_of_ble_eq_true rfl, by rw [hR]; exact Nat.le_of_ble_eq_true rfl⟩ ?_
  refine zz_kn (k1 := 2) (n1 := 49) (by decide) (by decide) ?_
  refine zz_dup C ddP_init_29 rfl ?_
  refine zz_aload_n C 2 ddP_init_30 rfl rfl ?_
  obtain ⟨q8, hq8, h⟩ := bindN h
  refine zz_callI (As := [.ref v1]) C ddP_init_31 wd_209 my_H_init ⟨rfl, mi_H_init⟩ (xH_init hG hg (d - 1) (by omega) hq8) (by omega) rfl rfl (Nat.le_of_ble_eq_true rfl) ⟨by rw [hR]; exact Nat.le_of_ble_eq_true rfl, by rw [hR]; exact Nat.le_of_ble_eq_true rfl⟩ ?_
  refine zz_kn (k1 := 19) (n1 := 1759) (by decide) (by decide) ?_
  obtain ⟨h9, h⟩ := gdN h
  obtain ⟨h10, h⟩ := gdN h
  obtain ⟨q11, hq11, h⟩ := bindN h
  refine zz_aastoreq (t := 103) (tc := 1) C ddP_init_34 rfl (by decide) (fun _ => rfl) h9 h10 hq11 ?_
  refine zz_iinc (v := 1) (L1 := [(2, .int 1), (0, .ref v0), (1, .ref v1)]) C 0 ddP_init_35 rfl (by decide) N (by decide) rfl ?_
  refine zz_goto (tgt := 15) C ddP_init_38 rfl ?_
  refine zz_iload_n C 0 ddP_init_15 rfl rfl ?_
  refine zz_bipush (v := 40) C ddP_init_16 (by decide) ?_
  refine zz_icmp_ge (tgt := 41) C ddP_init_18 rfl (fun hc => absurd hc (by decide)) (fun hc => ?_)
  refine zz_aload_n C 1 ddP_init_21 rfl rfl ?_
  obtain ⟨h12, h⟩ := gdN h
  obtain ⟨h13, h⟩ := gdN h
  refine zz_getr C ddP_init_22 fl_P_11 rfl h12 (of_decide_eq_true h13) ?_
  refine zz_iload_n C 0 ddP_init_25 rfl rfl ?_
  obtain ⟨q14, hq14, h⟩ := bindN h
  refine zz_new C ddP_init_26 (t := 1) rfl rfl ⟨wd_207, wd_119, wd_6⟩ hg hq14 ⟨by rw [hR]; exact Nat.le_of_ble_eq_true rfl, by rw [hR]; exact Nat.le_of_ble_eq_true rfl⟩ ?_
  refine zz_kn (k1 := 20) (n1 := 1768) (by decide) (by decide) ?_
  refine zz_dup C ddP_init_29 rfl ?_
  refine zz_aload_n C 2 ddP_init_30 rfl rfl ?_
  obtain ⟨q15, hq15, h⟩ := bindN h
  refine zz_callI (As := [.ref v1]) C ddP_init_31 wd_209 my_H_init ⟨rfl, mi_H_init⟩ (xH_init hG hg (d - 1) (by omega) hq15) (by omega) rfl rfl (Nat.le_of_ble_eq_true rfl) ⟨by rw [hR]; exact Nat.le_of_ble_eq_true rfl, by rw [hR]; exact Nat.le_of_ble_eq_true rfl⟩ ?_
  refine zz_kn (k1 := 37) (n1 := 3478) (by decide) (by decide) ?_
  obtain ⟨h16, h⟩ := gdN h
  obtain ⟨h17, h⟩ := gdN h
  obtain ⟨q18, hq18, h⟩ := bindN h
  refine zz_aastoreq (t := 103) (tc := 1) C ddP_init_34 rfl (by decide) (fun _ => rfl) h16 h17 hq18 ?_
  refine zz_iinc (v := 2) (L1 := [(2, .int 2), (0, .ref v0), (1, .ref v1)]) C 0 ddP_init_35 rfl (by decide) N (by decide) rfl ?_
  refine zz_goto (tgt := 15) C ddP_init_38 rfl ?_
  refine zz_iload_n C 0 ddP_init_15 rfl rfl ?_
  refine zz_bipush (v := 40) C ddP_init_16 (by decide) ?_
  refine zz_icmp_ge (tgt := 41) C ddP_init_18 rfl (fun hc => absurd hc (by decide)) (fun hc => ?_)
  refine zz_aload_n C 1 ddP_init_21 rfl rfl ?_
  obtain ⟨h19, h⟩ := gdN h
  obtain ⟨h20, h⟩ := gdN h
  refine zz_getr C ddP_init_22 fl_P_11 rfl h19 (of_decide_eq_true h20) ?_
  refine zz_iload_n C 0 ddP_init_25 rfl rfl ?_
  obtain ⟨q21, hq21, h⟩ := bindN h
  refine zz_new C ddP_init_26 (t := 1) rfl rfl ⟨wd_207, wd_119, wd_6⟩ hg hq21 ⟨by rw [hR]; exact Nat.le_of_ble_eq_true rfl, by rw [hR]; exact Nat.le_of_ble_eq_true rfl⟩ ?_
  refine zz_kn (k1 := 38) (n1 := 3487) (by decide) (by decide) ?_
  refine zz_dup C ddP_init_29 rfl ?_
  refine zz_aload_n C 2 ddP_init_30 rfl rfl ?_
  obtain ⟨q22, hq22, h⟩ := bindN h
  refine zz_callI (As := [.ref v1]) C ddP_init_31 wd_209 my_H_init ⟨rfl, mi_H_init⟩ (xH_init hG hg (d - 1) (by omega) hq22) (by omega) rfl rfl (Nat.le_of_ble_eq_true rfl) ⟨by rw [hR]; exact Nat.le_of_ble_eq_true rfl, by rw [hR]; exact Nat.le_of_ble_eq_true rfl⟩ ?_
  refine zz_kn (k1 := 55) (n1 := 5197) (by decide) (by decide) ?_
  obtain ⟨h23, h⟩ := gdN h
  obtain ⟨h24, h⟩ := gdN h
  obtain ⟨q25, hq25, h⟩ := bindN h
  refine zz_aastoreq (t := 103) (tc := 1) C ddP_init_34 rfl (by decide) (fun _ => rfl) h23 h24 hq25 ?_
  refine zz_iinc (v := 3) (L1 := [(2, .int 3), (0, .ref v0), (1, .ref v1)]) C 0 ddP_init_35 rfl (by decide) N (by decide) rfl ?_
  refine zz_goto (tgt := 15) C ddP_init_38 rfl ?_
  refine zz_iload_n C 0 ddP_init_15 rfl rfl ?_
  refine zz_bipush (v := 40) C ddP_init_16 (by decide) ?_
  refine zz_icmp_ge (tgt := 41) C ddP_init_18 rfl (fun hc => absurd hc (by decide)) (fun hc => ?_)
  refine zz_aload_n C 1 ddP_init_21 rfl rfl ?_
  obtain ⟨h26, h⟩ := gdN h
  obtain ⟨h27, h⟩ := gdN h
  refine zz_getr C ddP_init_22 fl_P_11 rfl h26 (of_decide_eq_true h27) ?_
  refine zz_iload_n C 0 ddP_init_25 rfl rfl ?_
  obtain ⟨q28, hq28, h⟩ := bindN h
  refine zz_new C ddP_init_26 (t := 1) rfl rfl ⟨wd_207, wd_119, wd_6⟩ hg hq28 ⟨by rw [hR]; exact Nat.le_of_ble_eq_true rfl, by rw [hR]; exact Nat.le_of_ble_eq_true rfl⟩ ?_
  refine zz_kn (k1 := 56) (n1 := 5206) (by decide) (by decide) ?_
  refine zz_dup C ddP_init_29 rfl ?_
  refine zz_aload_n C 2 ddP_init_30 rfl rfl ?_
  obtain ⟨q29, hq29, h⟩ := bindN h
  refine zz_callI (As := [.ref v1]) C ddP_init_31 wd_209 my_H_init ⟨rfl, mi_H_init⟩ (xH_init hG hg (d - 1) (by omega) hq29) (by omega) rfl rfl (Nat.le_of_ble_eq_true rfl) ⟨by rw [hR]; exact Nat.le_of_ble_eq_true rfl, by rw [hR]; exact Nat.le_of_ble_eq_true rfl⟩ ?_
  refine zz_kn (k1 := 73) (n1 := 6916) (by decide) (by decide) ?_
  obtain ⟨h30, h⟩ := gdN h
  obtain ⟨h31, h⟩ := gdN h
  obtain ⟨q32, hq32, h⟩ := bindN h
  refine zz_aastoreq (t := 103) (tc := 1) C ddP_init_34 rfl (by decide) (fun _ => rfl) h30 h31 hq32 ?_
  refine zz_iinc (v := 4) (L1 := [(2, .int 4), (0, .ref v0), (1, .ref v1)]) C 0 ddP_init_35 rfl (by decide) N (by decide) rfl ?_
  refine zz_goto (tgt := 15) C ddP_init_38 rfl ?_
  refine zz_iload_n C 0 ddP_init_15 rfl rfl ?_
  refine zz_bipush (v := 40) C ddP_init_16 (by decide) ?_
  refine zz_icmp_ge (tgt := 41) C ddP_init_18 rfl (fun hc => absurd hc (by decide)) (fun hc => ?_)
  refine zz_aload_n C 1 ddP_init_21 rfl rfl ?_
  obtain ⟨h33, h⟩ := gdN h
  obtain ⟨h34, h⟩ := gdN h
  refine zz_getr C ddP_init_22 fl_P_11 rfl h33 (of_decide_eq_true h34) ?_
  refine zz_iload_n C 0 ddP_init_25 rfl rfl ?_
  obtain ⟨q35, hq35, h⟩ := bindN h
  refine zz_new C ddP_init_26 (t := 1) rfl rfl ⟨wd_207, wd_119, wd_6⟩ hg hq35 ⟨by rw [hR]; exact Nat.le_of_ble_eq_true rfl, by rw [hR]; exact Nat.le_of_ble_eq_true rfl⟩ ?_
  refine zz_kn (k1 := 74) (n1 := 6925) (by decide) (by decide) ?_
  refine zz_dup C ddP_init_29 rfl ?_
  refine zz_aload_n C 2 ddP_init_30 rfl rfl ?_
  obtain ⟨q36, hq36, h⟩ := bindN h
  refine zz_callI (As := [.ref v1]) C ddP_init_31 wd_209 my_H_init ⟨rfl, mi_H_init⟩ (xH_init hG hg (d - 1) (by omega) hq36) (by omega) rfl rfl (Nat.le_of_ble_eq_true rfl) ⟨by rw [hR]; exact Nat.le_of_ble_eq_true rfl, by rw [hR]; exact Nat.le_of_ble_eq_true rfl⟩ ?_
  refine zz_kn (k1 := 91) (n1 := 8635) (by decide) (by decide) ?_
  obtain ⟨h37, h⟩ := gdN h
  obtain ⟨h38, h⟩ := gdN h
  obtain ⟨q39, hq39, h⟩ := bindN h
  refine zz_aastoreq (t := 103) (tc := 1) C ddP_init_34 rfl (by decide) (fun _ => rfl) h37 h38 hq39 ?_
  refine zz_iinc (v := 5) (L1 := [(2, .int 5), (0, .ref v0), (1, .ref v1)]) C 0 ddP_init_35 rfl (by decide) N (by decide) rfl ?_
  refine zz_goto (tgt := 15) C ddP_init_38 rfl ?_
  refine zz_iload_n C 0 ddP_init_15 rfl rfl ?_
  refine zz_bipush (v := 40) C ddP_init_16 (by decide) ?_
  refine zz_icmp_ge (tgt := 41) C ddP_init_18 rfl (fun hc => absurd hc (by decide)) (fun hc => ?_)
  refine zz_aload_n C 1 ddP_init_21 rfl rfl ?_
  obtain ⟨h40, h⟩ := gdN h
  obtain ⟨h41, h⟩ := gdN h
  refine zz_getr C ddP_init_22 fl_P_11 rfl h40 (of_decide_eq_true h41) ?_
  refine zz_iload_n C 0 ddP_init_25 rfl rfl ?_
  obtain ⟨q42, hq42, h⟩ := bindN h
  refine zz_new C ddP_init_26 (t := 1) rfl rfl ⟨wd_207, wd_119, wd_6⟩ hg hq42 ⟨by rw [hR]; exact Nat.le_of_ble_eq_true rfl, by rw [hR]; exact Nat.le_of_ble_eq_true rfl⟩ ?_
  refine zz_kn (k1 := 92) (n1 := 8644) (by decide) (by decide) ?_
  refine zz_dup C ddP_init_29 rfl ?_
  refine zz_aload_n C 2 ddP_init_30 rfl rfl ?_
  obtain ⟨q43, hq43, h⟩ := bindN h
  refine zz_callI (As := [.ref v1]) C ddP_init_31 wd_209 my_H_init ⟨rfl, mi_H_init⟩ (xH_init hG hg (d - 1) (by omega) hq43) (by omega) rfl rfl (Nat.le_of_ble_eq_true rfl) ⟨by rw [hR]; exact Nat.le_of_ble_eq_true rfl, by rw [hR]; exact Nat.le_of_ble_eq_true rfl⟩ ?_
  refine zz_kn (k1 := 109) (n1 := 10354) (by decide) (by decide) ?_
  obtain ⟨h44, h⟩ := gdN h
  obtain ⟨h45, h⟩ := gdN h
  obtain ⟨q46, hq46, h⟩ := bindN h
  refine zz_aastoreq (t := 103) (tc := 1) C ddP_init_34 rfl (by decide) (fun _ => rfl) h44 h45 hq46 ?_
  refine zz_iinc (v := 6) (L1 := [(2, .int 6), (0, .ref v0), (1, .ref v1)]) C 0 ddP_init_35 rfl (by decide) N (by decide) rfl ?_
  refine zz_goto (tgt := 15) C ddP_init_38 rfl ?_
  refine zz_iload_n C 0 ddP_init_15 rfl rfl ?_
  refine zz_bipush (v := 40) C ddP_init_16 (by decide) ?_
  refine zz_icmp_ge (tgt := 41) C ddP_init_18 rfl (fun hc => absurd hc (by decide)) (fun hc => ?_)
  refine zz_aload_n C 1 ddP_init_21 rfl rfl ?_
  obtain ⟨h47, h⟩ := gdN h
  obtain ⟨h48, h⟩ := gdN h
  refine zz_getr C ddP_init_22 fl_P_11 rfl h47 (of_decide_eq_true h48) ?_
  refine zz_iload_n C 0 ddP_init_25 rfl rfl ?_
  obtain ⟨q49, hq49, h⟩ := bindN h
  refine zz_new C ddP_init_26 (t := 1) rfl rfl ⟨wd_207, wd_119, wd_6⟩ hg hq49 ⟨by rw [hR]; exact Nat.le_of_ble_eq_true rfl, by rw [hR]; exact Nat.le_of_ble_eq_true rfl⟩ ?_
  refine zz_kn (k1 := 110) (n1 := 10363) (by decide) (by decide) ?_
  refine zz_dup C ddP_init_29 rfl ?_
  refine zz_aload_n C 2 ddP_init_30 rfl rfl ?_
  obtain ⟨q50, hq50, h⟩ := bindN h
  refine zz_callI (As := [.ref v1]) C ddP_init_31 wd_209 my_H_init ⟨rfl, mi_H_init⟩ (xH_init hG hg (d - 1) (by omega) hq50) (by omega) rfl rfl (Nat.le_of_ble_eq_true rfl) ⟨by rw [hR]; exact Nat.le_of_ble_eq_true rfl, by rw [hR]; exact Nat.le_of_ble_eq_true rfl⟩ ?_
  refine zz_kn (k1 := 127) (n1 := 12073) (by decide) (by decide) ?_
  obtain ⟨h51, h⟩ := gdN h
  obtain ⟨h52, h⟩ := gdN h
  obtain ⟨q53, hq53, h⟩ := bindN h
  refine zz_aastoreq (t := 103) (tc := 1) C ddP_init_34 rfl (by decide) (fun _ => rfl) h51 h52 hq53 ?_
  refine zz_iinc (v := 7) (L1 := [(2, .int 7), (0, .ref v0), (1, .ref v1)]) C 0 ddP_init_35 rfl (by decide) N (by decide) rfl ?_
  refine zz_goto (tgt := 15) C ddP_init_38 rfl ?_
  refine zz_iload_n C 0 ddP_init_15 rfl rfl ?_
  refine zz_bipush (v := 40) C ddP_init_16 (by decide) ?_
  refine zz_icmp_ge (tgt := 41) C ddP_init_18 rfl (fun hc => absurd hc (by decide)) (fun hc => ?_)
  refine zz_aload_n C 1 ddP_init_21 rfl rfl ?_
  obtain ⟨h54, h⟩ := gdN h
  obtain ⟨h55, h⟩ := gdN h
  refine zz_getr C ddP_init_22 fl_P_11 rfl h54 (of_decide_eq_true h55) ?_
  refine zz_iload_n C 0 ddP_init_25 rfl rfl ?_
  obtain ⟨q56, hq56, h⟩ := bindN h
  refine zz_new C ddP_init_26 (t := 1) rfl rfl ⟨wd_207, wd_119, wd_6⟩ hg hq56 ⟨by rw [hR]; exact Nat.le_of_ble_eq_true rfl, by rw [hR]; exact Nat.le_of_ble_eq_true rfl⟩ ?_
  refine zz_kn (k1 := 128) (n1 := 12082) (by decide) (by decide) ?_
  refine zz_dup C ddP_init_29 rfl ?_
  refine zz_aload_n C 2 ddP_init_30 rfl rfl ?_
  obtain ⟨q57, hq57, h⟩ := bindN h
  refine zz_callI (As := [.ref v1]) C ddP_init_31 wd_209 my_H_init ⟨rfl, mi_H_init⟩ (xH_init hG hg (d - 1) (by omega) hq57) (by omega) rfl rfl (Nat.le_of_ble_eq_true rfl) ⟨by rw [hR]; exact Nat.le_of_ble_eq_true rfl, by rw [hR]; exact Nat.le_of_ble_eq_true rfl⟩ ?_
  refine zz_kn (k1 := 145) (n1 := 13792) (by decide) (by decide) ?_
  obtain ⟨h58, h⟩ := gdN h
  obtain ⟨h59, h⟩ := gdN h
  obtain ⟨q60, hq60, h⟩ := bindN h
  refine zz_aastoreq (t := 103) (tc := 1) C ddP_init_34 rfl (by decide) (fun _ => rfl) h58 h59 hq60 ?_
  refine zz_iinc (v := 8) (L1 := [(2, .int 8), (0, .ref v0), (1, .ref v1)]) C 0 ddP_init_35 rfl (by decide) N (by decide) rfl ?_
  refine zz_goto (tgt := 15) C ddP_init_38 rfl ?_
  refine zz_iload_n C 0 ddP_init_15 rfl rfl ?_
  refine zz_bipush (v := 40) C ddP_init_16 (by decide) ?_
  refine zz_icmp_ge (tgt := 41) C ddP_init_18 rfl (fun hc => absurd hc (by decide)) (fun hc => ?_)
  refine zz_aload_n C 1 ddP_init_21 rfl rfl ?_
  obtain ⟨h61, h⟩ := gdN h
  obtain ⟨h62, h⟩ := gdN h
  refine zz_getr C ddP_init_22 fl_P_11 rfl h61 (of_decide_eq_true h62) ?_
  refine zz_iload_n C 0 ddP_init_25 rfl rfl ?_
  obtain ⟨q63, hq63, h⟩ := bindN h
  refine zz_new C ddP_init_26 (t := 1) rfl rfl ⟨wd_207, wd_119, wd_6⟩ hg hq63 ⟨by rw [hR]; exact Nat.le_of_ble_eq_true rfl, by rw [hR]; exact Nat.le_of_ble_eq_true rfl⟩ ?_
  refine zz_kn (k1 := 146) (n1 := 13801) (by decide) (by decide) ?_
  refine zz_dup C ddP_init_29 rfl ?_
  refine zz_aload_n C 2 ddP_init_30 rfl rfl ?_
  obtain ⟨q64, hq64, h⟩ := bindN h
  refine zz_callI (As := [.ref v1]) C ddP_init_31 wd_209 my_H_init ⟨rfl, mi_H_init⟩ (xH_init hG hg (d - 1) (by omega) hq64) (by omega) rfl rfl (Nat.le_of_ble_eq_true rfl) ⟨by rw [hR]; exact Nat.le_of_ble_eq_true rfl, by rw [hR]; exact Nat.le_of_ble_eq_true rfl⟩ ?_
  refine zz_kn (k1 := 163) (n1 := 15511) (by decide) (by decide) ?_
  obtain ⟨h65, h⟩ := gdN h
  obtain ⟨h66, h⟩ := gdN h
  obtain ⟨q67, hq67, h⟩ := bindN h
  refine zz_aastoreq (t := 103) (tc := 1) C ddP_init_34 rfl (by decide) (fun _ => rfl) h65 h66 hq67 ?_
  refine zz_iinc (v := 9) (L1 := [(2, .int 9), (0, .ref v0), (1, .ref v1)]) C 0 ddP_init_35 rfl (by decide) N (by decide) rfl ?_
  refine zz_goto (tgt := 15) C ddP_init_38 rfl ?_
  refine zz_iload_n C 0 ddP_init_15 rfl rfl ?_
  refine zz_bipush (v := 40) C ddP_init_16 (by decide) ?_
  refine zz_icmp_ge (tgt := 41) C ddP_init_18 rfl (fun hc => absurd hc (by decide)) (fun hc => ?_)
  refine zz_aload_n C 1 ddP_init_21 rfl rfl ?_
  obtain ⟨h68, h⟩ := gdN h
  obtain ⟨h69, h⟩ := gdN h
  refine zz_getr C ddP_init_22 fl_P_11 rfl h68 (of_decide_eq_true h69) ?_
  refine zz_iload_n C 0 ddP_init_25 rfl rfl ?_
  obtain ⟨q70, hq70, h⟩ := bindN h
  refine zz_new C ddP_init_26 (t := 1) rfl rfl ⟨wd_207, wd_119, wd_6⟩ hg hq70 ⟨by rw [hR]; exact Nat.le_of_ble_eq_true rfl, by rw [hR]; exact Nat.le_of_ble_eq_true rfl⟩ ?_
  refine zz_kn (k1 := 164) (n1 := 15520) (by decide) (by decide) ?_
  refine zz_dup C ddP_init_29 rfl ?_
  refine zz_aload_n C 2 ddP_init_30 rfl rfl ?_
  obtain ⟨q71, hq71, h⟩ := bindN h
  refine zz_callI (As := [.ref v1]) C ddP_init_31 wd_209 my_H_init ⟨rfl, mi_H_init⟩ (xH_init hG hg (d - 1) (by omega) hq71) (by omega) rfl rfl (Nat.le_of_ble_eq_true rfl) ⟨by rw [hR]; exact Nat.le_of_ble_eq_true rfl, by rw [hR]; exact Nat.le_of_ble_eq_true rfl⟩ ?_
  refine zz_kn (k1 := 181) (n1 := 17230) (by decide) (by decide) ?_
  obtain ⟨h72, h⟩ := gdN h
  obtain ⟨h73, h⟩ := gdN h
  obtain ⟨q74, hq74, h⟩ := bindN h
  refine zz_aastoreq (t := 103) (tc := 1) C ddP_init_34 rfl (by decide) (fun _ => rfl) h72 h73 hq74 ?_
  refine zz_iinc (v := 10) (L1 := [(2, .int 10), (0, .ref v0), (1, .ref v1)]) C 0 ddP_init_35 rfl (by decide) N (by decide) rfl ?_
  refine zz_goto (tgt := 15) C ddP_init_38 rfl ?_
  refine zz_iload_n C 0 ddP_init_15 rfl rfl ?_
  refine zz_bipush (v := 40) C ddP_init_16 (by decide) ?_
  refine zz_icmp_ge (tgt := 41) C ddP_init_18 rfl (fun hc => absurd hc (by decide)) (fun hc => ?_)
  refine zz_aload_n C 1 ddP_init_21 rfl rfl ?_
  obtain ⟨h75, h⟩ := gdN h
  obtain ⟨h76, h⟩ := gdN h
  refine zz_getr C ddP_init_22 fl_P_11 rfl h75 (of_decide_eq_true h76) ?_
  refine zz_iload_n C 0 ddP_init_25 rfl rfl ?_
  obtain ⟨q77, hq77, h⟩ := bindN h
  refine zz_new C ddP_init_26 (t := 1) rfl rfl ⟨wd_207, wd_119, wd_6⟩ hg hq77 ⟨by rw [hR]; exact Nat.le_of_ble_eq_true rfl, by rw [hR]; exact Nat.le_of_ble_eq_true rfl⟩ ?_
  refine zz_kn (k1 := 182) (n1 := 17239) (by decide) (by decide) ?_
  refine zz_dup C ddP_init_29 rfl ?_
  refine zz_aload_n C 2 ddP_init_30 rfl rfl ?_
  obtain ⟨q78, hq78, h⟩ := bindN h
  refine zz_callI (As := [.ref v1]) C ddP_init_31 wd_209 my_H_init ⟨rfl, mi_H_init⟩ (xH_init hG hg (d - 1) (by omega) hq78) (by omega) rfl rfl (Nat.le_of_ble_eq_true rfl) ⟨by rw [hR]; exact Nat.le_of_ble_eq_true rfl, by rw [hR]; exact Nat.le_of_ble_eq_true rfl⟩ ?_
  refine zz_kn (k1 := 199) (n1 := 18949) (by decide) (by decide) ?_
  obtain ⟨h79, h⟩ := gdN h
  obtain ⟨h80, h⟩ := gdN h
  obtain ⟨q81, hq81, h⟩ := bindN h
  refine zz_aastoreq (t := 103) (tc := 1) C ddP_init_34 rfl (by decide) (fun _ => rfl) h79 h80 hq81 ?_
  refine zz_iinc (v := 11) (L1 := [(2, .int 11), (0, .ref v0), (1, .ref v1)]) C 0 ddP_init_35 rfl (by decide) N (by decide) rfl ?_
  refine zz_goto (tgt := 15) C ddP_init_38 rfl ?_
  refine zz_iload_n C 0 ddP_init_15 rfl rfl ?_
  refine zz_bipush (v := 40) C ddP_init_16 (by decide) ?_
  refine zz_icmp_ge (tgt := 41) C ddP_init_18 rfl (fun hc => absurd hc (by decide)) (fun hc => ?_)
  refine zz_aload_n C 1 ddP_init_21 rfl rfl ?_
  obtain ⟨h82, h⟩ := gdN h
  obtain ⟨h83, h⟩ := gdN h
  refine zz_getr C ddP_init_22 fl_P_11 rfl h82 (of_decide_eq_true h83) ?_
  refine zz_iload_n C 0 ddP_init_25 rfl rfl ?_
  obtain ⟨q84, hq84, h⟩ := bindN h
  refine zz_new C ddP_init_26 (t := 1) rfl rfl ⟨wd_207, wd_119, wd_6⟩ hg hq84 ⟨by rw [hR]; exact Nat.le_of_ble_eq_true rfl, by rw [hR]; exact Nat.le_of_ble_eq_true rfl⟩ ?_
  refine zz_kn (k1 := 200) (n1 := 18958) (by decide) (by decide) ?_
  refine zz_dup C ddP_init_29 rfl ?_
  refine zz_aload_n C 2 ddP_init_30 rfl rfl ?_
  obtain ⟨q85, hq85, h⟩ := bindN h
  refine zz_callI (As := [.ref v1]) C ddP_init_31 wd_209 my_H_init ⟨rfl, mi_H_init⟩ (xH_init hG hg (d - 1) (by omega) hq85) (by omega) rfl rfl (Nat.le_of_ble_eq_true rfl) ⟨by rw [hR]; exact Nat.le_of_ble_eq_true rfl, by rw [hR]; exact Nat.le_of_ble_eq_true rfl⟩ ?_
  refine zz_kn (k1 := 217) (n1 := 20668) (by decide) (by decide) ?_
  obtain ⟨h86, h⟩ := gdN h
  obtain ⟨h87, h⟩ := gdN h
  obtain ⟨q88, hq88, h⟩ := bindN h
  refine zz_aastoreq (t := 103) (tc := 1) C ddP_init_34 rfl (by decide) (fun _ => rfl) h86 h87 hq88 ?_
  refine zz_iinc (v := 12) (L1 := [(2, .int 12), (0, .ref v0), (1, .ref v1)]) C 0 ddP_init_35 rfl (by decide) N (by decide) rfl ?_
  refine zz_goto (tgt := 15) C ddP_init_38 rfl ?_
  refine zz_iload_n C 0 ddP_init_15 rfl rfl ?_
  refine zz_bipush (v := 40) C ddP_init_16 (by decide) ?_
  refine zz_icmp_ge (tgt := 41) C ddP_init_18 rfl (fun hc => absurd hc (by decide)) (fun hc => ?_)
  refine zz_aload_n C 1 ddP_init_21 rfl rfl ?_
  obtain ⟨h89, h⟩ := gdN h
  obtain ⟨h90, h⟩ := gdN h
  refine zz_getr C ddP_init_22 fl_P_11 rfl h89 (of_decide_eq_true h90) ?_
  refine zz_iload_n C 0 ddP_init_25 rfl rfl ?_
  obtain ⟨q91, hq91, h⟩ := bindN h
  refine zz_new C ddP_init_26 (t := 1) rfl rfl ⟨wd_207, wd_119, wd_6⟩ hg hq91 ⟨by rw [hR]; exact Nat.le_of_ble_eq_true rfl, by rw [hR]; exact Nat.le_of_ble_eq_true rfl⟩ ?_
  refine zz_kn (k1 := 218) (n1 := 20677) (by decide) (by decide) ?_
  refine zz_dup C ddP_init_29 rfl ?_
  refine zz_aload_n C 2 ddP_init_30 rfl rfl ?_
  obtain ⟨q92, hq92, h⟩ := bindN h
  refine zz_callI (As := [.ref v1]) C ddP_init_31 wd_209 my_H_init ⟨rfl, mi_H_init⟩ (xH_init hG hg (d - 1) (by omega) hq92) (by omega) rfl rfl (Nat.le_of_ble_eq_true rfl) ⟨by rw [hR]; exact Nat.le_of_ble_eq_true rfl, by rw [hR]; exact Nat.le_of_ble_eq_true rfl⟩ ?_
  refine zz_kn (k1 := 235) (n1 := 22387) (by decide) (by decide) ?_
  obtain ⟨h93, h⟩ := gdN h
  obtain ⟨h94, h⟩ := gdN h
  obtain ⟨q95, hq95, h⟩ := bindN h
  refine zz_aastoreq (t := 103) (tc := 1) C ddP_init_34 rfl (by decide) (fun _ => rfl) h93 h94 hq95 ?_
  refine zz_iinc (v := 13) (L1 := [(2, .int 13), (0, .ref v0), (1, .ref v1)]) C 0 ddP_init_35 rfl (by decide) N (by decide) rfl ?_
  refine zz_goto (tgt := 15) C ddP_init_38 rfl ?_
  refine zz_iload_n C 0 ddP_init_15 rfl rfl ?_
  refine zz_bipush (v := 40) C ddP_init_16 (by decide) ?_
  refine zz_icmp_ge (tgt := 41) C ddP_init_18 rfl (fun hc => absurd hc (by decide)) (fun hc => ?_)
  refine zz_aload_n C 1 ddP_init_21 rfl rfl ?_
  obtain ⟨h96, h⟩ := gdN h
  obtain ⟨h97, h⟩ := gdN h
  refine zz_getr C ddP_init_22 fl_P_11 rfl h96 (of_decide_eq_true h97) ?_
  refine zz_iload_n C 0 ddP_init_25 rfl rfl ?_
  obtain ⟨q98, hq98, h⟩ := bindN h
  refine zz_new C ddP_init_26 (t := 1) rfl rfl ⟨wd_207, wd_119, wd_6⟩ hg hq98 ⟨by rw [hR]; exact Nat.le_of_ble_eq_true rfl, by rw [hR]; exact Nat.le_of_ble_eq_true rfl⟩ ?_
  refine zz_kn (k1 := 236) (n1 := 22396) (by decide) (by decide) ?_
  refine zz_dup C ddP_init_29 rfl ?_
  refine zz_aload_n C 2 ddP_init_30 rfl rfl ?_
  obtain ⟨q99, hq99, h⟩ := bindN h
  refine zz_callI (As := [.ref v1]) C ddP_init_31 wd_209 my_H_init ⟨rfl, mi_H_init⟩ (xH_init hG hg (d - 1) (by omega) hq99) (by omega) rfl rfl (Nat.le_of_ble_eq_true rfl) ⟨by rw [hR]; exact Nat.le_of_ble_eq_true rfl, by rw [hR]; exact Nat.le_of_ble_eq_true rfl⟩ ?_
  refine zz_kn (k1 := 253) (n1 := 24106) (by decide) (by decide) ?_
  obtain ⟨h100, h⟩ := gdN h
  obtain ⟨h101, h⟩ := gdN h
  obtain ⟨q102, hq102, h⟩ := bindN h
  refine zz_aastoreq (t := 103) (tc := 1) C ddP_init_34 rfl (by decide) (fun _ => rfl) h100 h101 hq102 ?_
  refine zz_iinc (v := 14) (L1 := [(2, .int 14), (0, .ref v0), (1, .ref v1)]) C 0 ddP_init_35 rfl (by decide) N (by decide) rfl ?_
  refine zz_goto (tgt := 15) C ddP_init_38 rfl ?_
  refine zz_iload_n C 0 ddP_init_15 rfl rfl ?_
  refine zz_bipush (v := 40) C ddP_init_16 (by decide) ?_
  refine zz_icmp_ge (tgt := 41) C ddP_init_18 rfl (fun hc => absurd hc (by decide)) (fun hc => ?_)
  refine zz_aload_n C 1 ddP_init_21 rfl rfl ?_
  obtain ⟨h103, h⟩ := gdN h
  obtain ⟨h104, h⟩ := gdN h
  refine zz_getr C ddP_init_22 fl_P_11 rfl h103 (of_decide_eq_true h104) ?_
  refine zz_iload_n C 0 ddP_init_25 rfl rfl ?_
  obtain ⟨q105, hq105, h⟩ := bindN h
  refine zz_new C ddP_init_26 (t := 1) rfl rfl ⟨wd_207, wd_119, wd_6⟩ hg hq105 ⟨by rw [hR]; exact Nat.le_of_ble_eq_true rfl, by rw [hR]; exact Nat.le_of_ble_eq_true rfl⟩ ?_
  refine zz_kn (k1 := 254) (n1 := 24115) (by decide) (by decide) ?_
  refine zz_dup C ddP_init_29 rfl ?_
  refine zz_aload_n C 2 ddP_init_30 rfl rfl ?_
  obtain ⟨q106, hq106, h⟩ := bindN h
  refine zz_callI (As := [.ref v1]) C ddP_init_31 wd_209 my_H_init ⟨rfl, mi_H_init⟩ (xH_init hG hg (d - 1) (by omega) hq106) (by omega) rfl rfl (Nat.le_of_ble_eq_true rfl) ⟨by rw [hR]; exact Nat.le_of_ble_eq_true rfl, by rw [hR]; exact Nat.le_of_ble_eq_true rfl⟩ ?_
  refine zz_kn (k1 := 271) (n1 := 25825) (by decide) (by decide) ?_
  obtain ⟨h107, h⟩ := gdN h
  obtain ⟨h108, h⟩ := gdN h
  obtain ⟨q109, hq109, h⟩ := bindN h
  refine zz_aastoreq (t := 103) (tc := 1) C ddP_init_34 rfl (by decide) (fun _ => rfl) h107 h108 hq109 ?_
  refine zz_iinc (v := 15) (L1 := [(2, .int 15), (0, .ref v0), (1, .ref v1)]) C 0 ddP_init_35 rfl (by decide) N (by decide) rfl ?_
  refine zz_goto (tgt := 15) C ddP_init_38 rfl ?_
  refine zz_iload_n C 0 ddP_init_15 rfl rfl ?_
  refine zz_bipush (v := 40) C ddP_init_16 (by decide) ?_
  refine zz_icmp_ge (tgt := 41) C ddP_init_18 rfl (fun hc => absurd hc (by decide)) (fun hc => ?_)
  refine zz_aload_n C 1 ddP_init_21 rfl rfl ?_
  obtain ⟨h110, h⟩ := gdN h
  obtain ⟨h111, h⟩ := gdN h
  refine zz_getr C ddP_init_22 fl_P_11 rfl h110 (of_decide_eq_true h111) ?_
  refine zz_iload_n C 0 ddP_init_25 rfl rfl ?_
  obtain ⟨q112, hq112, h⟩ := bindN h
  refine zz_new C ddP_init_26 (t := 1) rfl rfl ⟨wd_207, wd_119, wd_6⟩ hg hq112 ⟨by rw [hR]; exact Nat.le_of_ble_eq_true rfl, by rw [hR]; exact Nat.le_of_ble_eq_true rfl⟩ ?_
  refine zz_kn (k1 := 272) (n1 := 25834) (by decide) (by decide) ?_
  refine zz_dup C ddP_init_29 rfl ?_
  refine zz_aload_n C 2 ddP_init_30 rfl rfl ?_
  obtain ⟨q113, hq113, h⟩ := bindN h
  refine zz_callI (As := [.ref v1]) C ddP_init_31 wd_209 my_H_init ⟨rfl, mi_H_init⟩ (xH_init hG hg (d - 1) (by omega) hq113) (by omega) rfl rfl (Nat.le_of_ble_eq_true rfl) ⟨by rw [hR]; exact Nat.le_of_ble_eq_true rfl, by rw [hR]; exact Nat.le_of_ble_eq_true rfl⟩ ?_
  refine zz_kn (k1 := 289) (n1 := 27544) (by decide) (by decide) ?_
  obtain ⟨h114, h⟩ := gdN h
  obtain ⟨h115, h⟩ := gdN h
  obtain ⟨q116, hq116, h⟩ := bindN h
  refine zz_aastoreq (t := 103) (tc := 1) C ddP_init_34 rfl (by decide) (fun _ => rfl) h114 h115 hq116 ?_
  refine zz_iinc (v := 16) (L1 := [(2, .int 16), (0, .ref v0), (1, .ref v1)]) C 0 ddP_init_35 rfl (by decide) N (by decide) rfl ?_
  refine zz_goto (tgt := 15) C ddP_init_38 rfl ?_
  refine zz_iload_n C 0 ddP_init_15 rfl rfl ?_
  refine zz_bipush (v := 40) C ddP_init_16 (by decide) ?_
  refine zz_icmp_ge (tgt := 41) C ddP_init_18 rfl (fun hc => absurd hc (by decide)) (fun hc => ?_)
  refine zz_aload_n C 1 ddP_init_21 rfl rfl ?_
  obtain ⟨h117, h⟩ := gdN h
  obtain ⟨h118, h⟩ := gdN h
  refine zz_getr C ddP_init_22 fl_P_11 rfl h117 (of_decide_eq_true h118) ?_
  refine zz_iload_n C 0 ddP_init_25 rfl rfl ?_
  obtain ⟨q119, hq119, h⟩ := bindN h
  refine zz_new C ddP_init_26 (t := 1) rfl rfl ⟨wd_207, wd_119, wd_6⟩ hg hq119 ⟨by rw [hR]; exact Nat.le_of_ble_eq_true rfl, by rw [hR]; exact Nat.le_of_ble_eq_true rfl⟩ ?_
  refine zz_kn (k1 := 290) (n1 := 27553) (by decide) (by decide) ?_
  refine zz_dup C ddP_init_29 rfl ?_
  refine zz_aload_n C 2 ddP_init_30 rfl rfl ?_
  obtain ⟨q120, hq120, h⟩ := bindN h
  refine zz_callI (As := [.ref v1]) C ddP_init_31 wd_209 my_H_init ⟨rfl, mi_H_init⟩ (xH_init hG hg (d - 1) (by omega) hq120) (by omega) rfl rfl (Nat.le_of_ble_eq_true rfl) ⟨by rw [hR]; exact Nat.le_of_ble_eq_true rfl, by rw [hR]; exact Nat.le_of_ble_eq_true rfl⟩ ?_
  refine zz_kn (k1 := 307) (n1 := 29263) (by decide) (by decide) ?_
  obtain ⟨h121, h⟩ := gdN h
  obtain ⟨h122, h⟩ := gdN h
  obtain ⟨q123, hq123, h⟩ := bindN h
  refine zz_aastoreq (t := 103) (tc := 1) C ddP_init_34 rfl (by decide) (fun _ => rfl) h121 h122 hq123 ?_
  refine zz_iinc (v := 17) (L1 := [(2, .int 17), (0, .ref v0), (1, .ref v1)]) C 0 ddP_init_35 rfl (by decide) N (by decide) rfl ?_
  refine zz_goto (tgt := 15) C ddP_init_38 rfl ?_
  refine zz_iload_n C 0 ddP_init_15 rfl rfl ?_
  refine zz_bipush (v := 40) C ddP_init_16 (by decide) ?_
  refine zz_icmp_ge (tgt := 41) C ddP_init_18 rfl (fun hc => absurd hc (by decide)) (fun hc => ?_)
  refine zz_aload_n C 1 ddP_init_21 rfl rfl ?_
  obtain ⟨h124, h⟩ := gdN h
  obtain ⟨h125, h⟩ := gdN h
  refine zz_getr C ddP_init_22 fl_P_11 rfl h124 (of_decide_eq_true h125) ?_
  refine zz_iload_n C 0 ddP_init_25 rfl rfl ?_
  obtain ⟨q126, hq126, h⟩ := bindN h
  refine zz_new C ddP_init_26 (t := 1) rfl rfl ⟨wd_207, wd_119, wd_6⟩ hg hq126 ⟨by rw [hR]; exact Nat.le_of_ble_eq_true rfl, by rw [hR]; exact Nat.le_of_ble_eq_true rfl⟩ ?_
  refine zz_kn (k1 := 308) (n1 := 29272) (by decide) (by decide) ?_
  refine zz_dup C ddP_init_29 rfl ?_
  refine zz_aload_n C 2 ddP_init_30 rfl rfl ?_
  obtain ⟨q127, hq127, h⟩ := bindN h
  refine zz_callI (As := [.ref v1]) C ddP_init_31 wd_209 my_H_init ⟨rfl, mi_H_init⟩ (xH_init hG hg (d - 1) (by omega) hq127) (by omega) rfl rfl (Nat.le_of_ble_eq_true rfl) ⟨by rw [hR]; exact Nat.le_of_ble_eq_true rfl, by rw [hR]; exact Nat.le_of_ble_eq_true rfl⟩ ?_
  refine zz_kn (k1 := 325) (n1 := 30982) (by decide) (by decide) ?_
  obtain ⟨h128, h⟩ := gdN h
  obtain ⟨h129, h⟩ := gdN h
  obtain ⟨q130, hq130, h⟩ := bindN h
  refine zz_aastoreq (t := 103) (tc := 1) C ddP_init_34 rfl (by decide) (fun _ => rfl) h128 h129 hq130 ?_
  refine zz_iinc (v := 18) (L1 := [(2, .int 18), (0, .ref v0), (1, .ref v1)]) C 0 ddP_init_35 rfl (by decide) N (by decide) rfl ?_
  refine zz_goto (tgt := 15) C ddP_init_38 rfl ?_
  refine zz_iload_n C 0 ddP_init_15 rfl rfl ?_
  refine zz_bipush (v := 40) C ddP_init_16 (by decide) ?_
  refine zz_icmp_ge (tgt := 41) C ddP_init_18 rfl (fun hc => absurd hc (by decide)) (fun hc => ?_)
  refine zz_aload_n C 1 ddP_init_21 rfl rfl ?_
  obtain ⟨h131, h⟩ := gdN h
  obtain ⟨h132, h⟩ := gdN h
  refine zz_getr C ddP_init_22 fl_P_11 rfl h131 (of_decide_eq_true h132) ?_
  refine zz_iload_n C 0 ddP_init_25 rfl rfl ?_
  obtain ⟨q133, hq133, h⟩ := bindN h
  refine zz_new C ddP_init_26 (t := 1) rfl rfl ⟨wd_207, wd_119, wd_6⟩ hg hq133 ⟨by rw [hR]; exact Nat.le_of_ble_eq_true rfl, by rw [hR]; exact Nat.le_of_ble_eq_true rfl⟩ ?_
  refine zz_kn (k1 := 326) (n1 := 30991) (by decide) (by decide) ?_
  refine zz_dup C ddP_init_29 rfl ?_
  refine zz_aload_n C 2 ddP_init_30 rfl rfl ?_
  obtain ⟨q134, hq134, h⟩ := bindN h
  refine zz_callI (As := [.ref v1]) C ddP_init_31 wd_209 my_H_init ⟨rfl, mi_H_init⟩ (xH_init hG hg (d - 1) (by omega) hq134) (by omega) rfl rfl (Nat.le_of_ble_eq_true rfl) ⟨by rw [hR]; exact Nat.le_of_ble_eq_true rfl, by rw [hR]; exact Nat.le_of_ble_eq_true rfl⟩ ?_
  refine zz_kn (k1 := 343) (n1 := 32701) (by decide) (by decide) ?_
  obtain ⟨h135, h⟩ := gdN h
  obtain ⟨h136, h⟩ := gdN h
  obtain ⟨q137, hq137, h⟩ := bindN h
  refine zz_aastoreq (t := 103) (tc := 1) C ddP_init_34 rfl (by decide) (fun _ => rfl) h135 h136 hq137 ?_
  refine zz_iinc (v := 19) (L1 := [(2, .int 19), (0, .ref v0), (1, .ref v1)]) C 0 ddP_init_35 rfl (by decide) N (by decide) rfl ?_
  refine zz_goto (tgt := 15) C ddP_init_38 rfl ?_
  refine zz_iload_n C 0 ddP_init_15 rfl rfl ?_
  refine zz_bipush (v := 40) C ddP_init_16 (by decide) ?_
  refine zz_icmp_ge (tgt := 41) C ddP_init_18 rfl (fun hc => absurd hc (by decide)) (fun hc => ?_)
  refine zz_aload_n C 1 ddP_init_21 rfl rfl ?_
  obtain ⟨h138, h⟩ := gdN h
  obtain ⟨h139, h⟩ := gdN h
  refine zz_getr C ddP_init_22 fl_P_11 rfl h138 (of_decide_eq_true h139) ?_
  refine zz_iload_n C 0 ddP_init_25 rfl rfl ?_
  obtain ⟨q140, hq140, h⟩ := bindN h
  refine zz_new C ddP_init_26 (t := 1) rfl rfl ⟨wd_207, wd_119, wd_6⟩ hg hq140 ⟨by rw [hR]; exact Nat.le_of_ble_eq_true rfl, by rw [hR]; exact Nat.le_of_ble_eq_true rfl⟩ ?_
  refine zz_kn (k1 := 344) (n1 := 32710) (by decide) (by decide) ?_
  refine zz_dup C ddP_init_29 rfl ?_
  refine zz_aload_n C 2 ddP_init_30 rfl rfl ?_
  obtain ⟨q141, hq141, h⟩ := bindN h
  refine zz_callI (As := [.ref v1]) C ddP_init_31 wd_209 my_H_init ⟨rfl, mi_H_init⟩ (xH_init hG hg (d - 1) (by omega) hq141) (by omega) rfl rfl (Nat.le_of_ble_eq_true rfl) ⟨by rw [hR]; exact Nat.le_of_ble_eq_true rfl, by rw [hR]; exact Nat.le_of_ble_eq_true rfl⟩ ?_
  refine zz_kn (k1 := 361) (n1 := 34420) (by decide) (by decide) ?_
  obtain ⟨h142, h⟩ := gdN h
  obtain ⟨h143, h⟩ := gdN h
  obtain ⟨q144, hq144, h⟩ := bindN h
  refine zz_aastoreq (t := 103) (tc := 1) C ddP_init_34 rfl (by decide) (fun _ => rfl) h142 h143 hq144 ?_
  refine zz_iinc (v := 20) (L1 := [(2, .int 20), (0, .ref v0), (1, .ref v1)]) C 0 ddP_init_35 rfl (by decide) N (by decide) rfl ?_
  refine zz_goto (tgt := 15) C ddP_init_38 rfl ?_
  refine zz_iload_n C 0 ddP_init_15 rfl rfl ?_
  refine zz_bipush (v := 40) C ddP_init_16 (by decide) ?_
  refine zz_icmp_ge (tgt := 41) C ddP_init_18 rfl (fun hc => absurd hc (by decide)) (fun hc => ?_)
  refine zz_aload_n C 1 ddP_init_21 rfl rfl ?_
  obtain ⟨h145, h⟩ := gdN h
  obtain ⟨h146, h⟩ := gdN h
  refine zz_getr C ddP_init_22 fl_P_11 rfl h145 (of_decide_eq_true h146) ?_
  refine zz_iload_n C 0 ddP_init_25 rfl rfl ?_
  obtain ⟨q147, hq147, h⟩ := bindN h
  refine zz_new C ddP_init_26 (t := 1) rfl rfl ⟨wd_207, wd_119, wd_6⟩ hg hq147 ⟨by rw [hR]; exact Nat.le_of_ble_eq_true rfl, by rw [hR]; exact Nat.le_of_ble_eq_true rfl⟩ ?_
  refine zz_kn (k1 := 362) (n1 := 34429) (by decide) (by decide) ?_
  refine zz_dup C ddP_init_29 rfl ?_
  refine zz_aload_n C 2 ddP_init_30 rfl rfl ?_
  obtain ⟨q148, hq148, h⟩ := bindN h
  refine zz_callI (As := [.ref v1]) C ddP_init_31 wd_209 my_H_init ⟨rfl, mi_H_init⟩ (xH_init hG hg (d - 1) (by omega) hq148) (by omega) rfl rfl (Nat.le_of_ble_eq_true rfl) ⟨by rw [hR]; exact Nat.le_of_ble_eq_true rfl, by rw [hR]; exact Nat.le_of_ble_eq_true rfl⟩ ?_
  refine zz_kn (k1 := 379) (n1 := 36139) (by decide) (by decide) ?_
  obtain ⟨h149, h⟩ := gdN h
  obtain ⟨h150, h⟩ := gdN h
  obtain ⟨q151, hq151, h⟩ := bindN h
  refine zz_aastoreq (t := 103) (tc := 1) C ddP_init_34 rfl (by decide) (fun _ => rfl) h149 h150 hq151 ?_
  refine zz_iinc (v := 21) (L1 := [(2, .int 21), (0, .ref v0), (1, .ref v1)]) C 0 ddP_init_35 rfl (by decide) N (by decide) rfl ?_
  refine zz_goto (tgt := 15) C ddP_init_38 rfl ?_
  refine zz_iload_n C 0 ddP_init_15 rfl rfl ?_
  refine zz_bipush (v := 40) C ddP_init_16 (by decide) ?_
  refine zz_icmp_ge (tgt := 41) C ddP_init_18 rfl (fun hc => absurd hc (by decide)) (fun hc => ?_)
  refine zz_aload_n C 1 ddP_init_21 rfl rfl ?_
  obtain ⟨h152, h⟩ := gdN h
  obtain ⟨h153, h⟩ := gdN h
  refine zz_getr C ddP_init_22 fl_P_11 rfl h152 (of_decide_eq_true h153) ?_
  refine zz_iload_n C 0 ddP_init_25 rfl rfl ?_
  obtain ⟨q154, hq154, h⟩ := bindN h
  refine zz_new C ddP_init_26 (t := 1) rfl rfl ⟨wd_207, wd_119, wd_6⟩ hg hq154 ⟨by rw [hR]; exact Nat.le_of_ble_eq_true rfl, by rw [hR]; exact Nat.le_of_ble_eq_true rfl⟩ ?_
  refine zz_kn (k1 := 380) (n1 := 36148) (by decide) (by decide) ?_
  refine zz_dup C ddP_init_29 rfl ?_
  refine zz_aload_n C 2 ddP_init_30 rfl rfl ?_
  obtain ⟨q155, hq155, h⟩ := bindN h
  refine zz_callI (As := [.ref v1]) C ddP_init_31 wd_209 my_H_init ⟨rfl, mi_H_init⟩ (xH_init hG hg (d - 1) (by omega) hq155) (by omega) rfl rfl (Nat.le_of_ble_eq_true rfl) ⟨by rw [hR]; exact Nat.le_of_ble_eq_true rfl, by rw [hR]; exact Nat.le_of_ble_eq_true rfl⟩ ?_
  refine zz_kn (k1 := 397) (n1 := 37858) (by decide) (by decide) ?_
  obtain ⟨h156, h⟩ := gdN h
  obtain ⟨h157, h⟩ := gdN h
  obtain ⟨q158, hq158, h⟩ := bindN h
  refine zz_aastoreq (t := 103) (tc := 1) C ddP_init_34 rfl (by decide) (fun _ => rfl) h156 h157 hq158 ?_
  refine zz_iinc (v := 22) (L1 := [(2, .int 22), (0, .ref v0), (1, .ref v1)]) C 0 ddP_init_35 rfl (by decide) N (by decide) rfl ?_
  refine zz_goto (tgt := 15) C ddP_init_38 rfl ?_
  refine zz_iload_n C 0 ddP_init_15 rfl rfl ?_
  refine zz_bipush (v := 40) C ddP_init_16 (by decide) ?_
  refine zz_icmp_ge (tgt := 41) C ddP_init_18 rfl (fun hc => absurd hc (by decide)) (fun hc => ?_)
  refine zz_aload_n C 1 ddP_init_21 rfl rfl ?_
  obtain ⟨h159, h⟩ := gdN h
  obtain ⟨h160, h⟩ := gdN h
  refine zz_getr C ddP_init_22 fl_P_11 rfl h159 (of_decide_eq_true h160) ?_
  refine zz_iload_n C 0 ddP_init_25 rfl rfl ?_
  obtain ⟨q161, hq161, h⟩ := bindN h
  refine zz_new C ddP_init_26 (t := 1) rfl rfl ⟨wd_207, wd_119, wd_6⟩ hg hq161 ⟨by rw [hR]; exact Nat.le_of_ble_eq_true rfl, by rw [hR]; exact Nat.le_of_ble_eq_true rfl⟩ ?_
  refine zz_kn (k1 := 398) (n1 := 37867) (by decide) (by decide) ?_
  refine zz_dup C ddP_init_29 rfl ?_
  refine zz_aload_n C 2 ddP_init_30 rfl rfl ?_
  obtain ⟨q162, hq162, h⟩ := bindN h
  refine zz_callI (As := [.ref v1]) C ddP_init_31 wd_209 my_H_init ⟨rfl, mi_H_init⟩ (xH_init hG hg (d - 1) (by omega) hq162) (by omega) rfl rfl (Nat.le_of_ble_eq_true rfl) ⟨by rw [hR]; exact Nat.le_of_ble_eq_true rfl, by rw [hR]; exact Nat.le_of_ble_eq_true rfl⟩ ?_
  refine zz_kn (k1 := 415) (n1 := 39577) (by decide) (by decide) ?_
  obtain ⟨h163, h⟩ := gdN h
  obtain ⟨h164, h⟩ := gdN h
  obtain ⟨q165, hq165, h⟩ := bindN h
  refine zz_aastoreq (t := 103) (tc := 1) C ddP_init_34 rfl (by decide) (fun _ => rfl) h163 h164 hq165 ?_
  refine zz_iinc (v := 23) (L1 := [(2, .int 23), (0, .ref v0), (1, .ref v1)]) C 0 ddP_init_35 rfl (by decide) N (by decide) rfl ?_
  refine zz_goto (tgt := 15) C ddP_init_38 rfl ?_
  refine zz_iload_n C 0 ddP_init_15 rfl rfl ?_
  refine zz_bipush (v := 40) C ddP_init_16 (by decide) ?_
  refine zz_icmp_ge (tgt := 41) C ddP_init_18 rfl (fun hc => absurd hc (by decide)) (fun hc => ?_)
  refine zz_aload_n C 1 ddP_init_21 rfl rfl ?_
  obtain ⟨h166, h⟩ := gdN h
  obtain ⟨h167, h⟩ := gdN h
  refine zz_getr C ddP_init_22 fl_P_11 rfl h166 (of_decide_eq_true h167) ?_
  refine zz_iload_n C 0 ddP_init_25 rfl rfl ?_
  obtain ⟨q168, hq168, h⟩ := bindN h
  refine zz_new C ddP_init_26 (t := 1) rfl rfl ⟨wd_207, wd_119, wd_6⟩ hg hq168 ⟨by rw [hR]; exact Nat.le_of_ble_eq_true rfl, by rw [hR]; exact Nat.le_of_ble_eq_true rfl⟩ ?_
  refine zz_kn (k1 := 416) (n1 := 39586) (by decide) (by decide) ?_
  refine zz_dup C ddP_init_29 rfl ?_
  refine zz_aload_n C 2 ddP_init_30 rfl rfl ?_
  obtain ⟨q169, hq169, h⟩ := bindN h
  refine zz_callI (As := [.ref v1]) C ddP_init_31 wd_209 my_H_init ⟨rfl, mi_H_init⟩ (xH_init hG hg (d - 1) (by omega) hq169) (by omega) rfl rfl (Nat.le_of_ble_eq_true rfl) ⟨by rw [hR]; exact Nat.le_of_ble_eq_true rfl, by rw [hR]; exact Nat.le_of_ble_eq_true rfl⟩ ?_
  refine zz_kn (k1 := 433) (n1 := 41296) (by decide) (by decide) ?_
  obtain ⟨h170, h⟩ := gdN h
  obtain ⟨h171, h⟩ := gdN h
  obtain ⟨q172, hq172, h⟩ := bindN h
  refine zz_aastoreq (t := 103) (tc := 1) C ddP_init_34 rfl (by decide) (fun _ => rfl) h170 h171 hq172 ?_
  refine zz_iinc (v := 24) (L1 := [(2, .int 24), (0, .ref v0), (1, .ref v1)]) C 0 ddP_init_35 rfl (by decide) N (by decide) rfl ?_
  refine zz_goto (tgt := 15) C ddP_init_38 rfl ?_
  refine zz_iload_n C 0 ddP_init_15 rfl rfl ?_
  refine zz_bipush (v := 40) C ddP_init_16 (by decide) ?_
  refine zz_icmp_ge (tgt := 41) C ddP_init_18 rfl (fun hc => absurd hc (by decide)) (fun hc => ?_)
  refine zz_aload_n C 1 ddP_init_21 rfl rfl ?_
  obtain ⟨h173, h⟩ := gdN h
  obtain ⟨h174, h⟩ := gdN h
  refine zz_getr C ddP_init_22 fl_P_11 rfl h173 (of_decide_eq_true h174) ?_
  refine zz_iload_n C 0 ddP_init_25 rfl rfl ?_
  obtain ⟨q175, hq175, h⟩ := bindN h
  refine zz_new C ddP_init_26 (t := 1) rfl rfl ⟨wd_207, wd_119, wd_6⟩ hg hq175 ⟨by rw [hR]; exact Nat.le_of_ble_eq_true rfl, by rw [hR]; exact Nat.le_of_ble_eq_true rfl⟩ ?_
  refine zz_kn (k1 := 434) (n1 := 41305) (by decide) (by decide) ?_
  refine zz_dup C ddP_init_29 rfl ?_
  refine zz_aload_n C 2 ddP_init_30 rfl rfl ?_
  obtain ⟨q176, hq176, h⟩ := bindN h
  refine zz_callI (As := [.ref v1]) C ddP_init_31 wd_209 my_H_init ⟨rfl, mi_H_init⟩ (xH_init hG hg (d - 1) (by omega) hq176) (by omega) rfl rfl (Nat.le_of_ble_eq_true rfl) ⟨by rw [hR]; exact Nat.le_of_ble_eq_true rfl, by rw [hR]; exact Nat.le_of_ble_eq_true rfl⟩ ?_
  refine zz_kn (k1 := 451) (n1 := 43015) (by decide) (by decide) ?_
  obtain ⟨h177, h⟩ := gdN h
  obtain ⟨h178, h⟩ := gdN h
  obtain ⟨q179, hq179, h⟩ := bindN h
  refine zz_aastoreq (t := 103) (tc := 1) C ddP_init_34 rfl (by decide) (fun _ => rfl) h177 h178 hq179 ?_
  refine zz_iinc (v := 25) (L1 := [(2, .int 25), (0, .ref v0), (1, .ref v1)]) C 0 ddP_init_35 rfl (by decide) N (by decide) rfl ?_
  refine zz_goto (tgt := 15) C ddP_init_38 rfl ?_
  refine zz_iload_n C 0 ddP_init_15 rfl rfl ?_
  refine zz_bipush (v := 40) C ddP_init_16 (by decide) ?_
  refine zz_icmp_ge (tgt := 41) C ddP_init_18 rfl (fun hc => absurd hc (by decide)) (fun hc => ?_)
  refine zz_aload_n C 1 ddP_init_21 rfl rfl ?_
  obtain ⟨h180, h⟩ := gdN h
  obtain ⟨h181, h⟩ := gdN h
  refine zz_getr C ddP_init_22 fl_P_11 rfl h180 (of_decide_eq_true h181) ?_
  refine zz_iload_n C 0 ddP_init_25 rfl rfl ?_
  obtain ⟨q182, hq182, h⟩ := bindN h
  refine zz_new C ddP_init_26 (t := 1) rfl rfl ⟨wd_207, wd_119, wd_6⟩ hg hq182 ⟨by rw [hR]; exact Nat.le_of_ble_eq_true rfl, by rw [hR]; exact Nat.le_of_ble_eq_true rfl⟩ ?_
  refine zz_kn (k1 := 452) (n1 := 43024) (by decide) (by decide) ?_
  refine zz_dup C ddP_init_29 rfl ?_
  refine zz_aload_n C 2 ddP_init_30 rfl rfl ?_
  obtain ⟨q183, hq183, h⟩ := bindN h
  refine zz_callI (As := [.ref v1]) C ddP_init_31 wd_209 my_H_init ⟨rfl, mi_H_init⟩ (xH_init hG hg (d - 1) (by omega) hq183) (by omega) rfl rfl (Nat.le_of_ble_eq_true rfl) ⟨by rw [hR]; exact Nat.le_of_ble_eq_true rfl, by rw [hR]; exact Nat.le_of_ble_eq_true rfl⟩ ?_
  refine zz_kn (k1 := 469) (n1 := 44734) (by decide) (by decide) ?_
  obtain ⟨h184, h⟩ := gdN h
  obtain ⟨h185, h⟩ := gdN h
  obtain ⟨q186, hq186, h⟩ := bindN h
  refine zz_aastoreq (t := 103) (tc := 1) C ddP_init_34 rfl (by decide) (fun _ => rfl) h184 h185 hq186 ?_
  refine zz_iinc (v := 26) (L1 := [(2, .int 26), (0, .ref v0), (1, .ref v1)]) C 0 ddP_init_35 rfl (by decide) N (by decide) rfl ?_
  refine zz_goto (tgt := 15) C ddP_init_38 rfl ?_
  refine zz_iload_n C 0 ddP_init_15 rfl rfl ?_
  refine zz_bipush (v := 40) C ddP_init_16 (by decide) ?_
  refine zz_icmp_ge (tgt := 41) C ddP_init_18 rfl (fun hc => absurd hc (by decide)) (fun hc => ?_)
  refine zz_aload_n C 1 ddP_init_21 rfl rfl ?_
  obtain ⟨h187, h⟩ := gdN h
  obtain ⟨h188, h⟩ := gdN h
  refine zz_getr C ddP_init_22 fl_P_11 rfl h187 (of_decide_eq_true h188) ?_
  refine zz_iload_n C 0 ddP_init_25 rfl rfl ?_
  obtain ⟨q189, hq189, h⟩ := bindN h
  refine zz_new C ddP_init_26 (t := 1) rfl rfl ⟨wd_207, wd_119, wd_6⟩ hg hq189 ⟨by rw [hR]; exact Nat.le_of_ble_eq_true rfl, by rw [hR]; exact Nat.le_of_ble_eq_true rfl⟩ ?_
  refine zz_kn (k1 := 470) (n1 := 44743) (by decide) (by decide) ?_
  refine zz_dup C ddP_init_29 rfl ?_
  refine zz_aload_n C 2 ddP_init_30 rfl rfl ?_
  obtain ⟨q190, hq190, h⟩ := bindN h
  refine zz_callI (As := [.ref v1]) C ddP_init_31 wd_209 my_H_init ⟨rfl, mi_H_init⟩ (xH_init hG hg (d - 1) (by omega) hq190) (by omega) rfl rfl (Nat.le_of_ble_eq_true rfl) ⟨by rw [hR]; exact Nat.le_of_ble_eq_true rfl, by rw [hR]; exact Nat.le_of_ble_eq_true rfl⟩ ?_
  refine zz_kn (k1 := 487) (n1 := 46453) (by decide) (by decide) ?_
  obtain ⟨h191, h⟩ := gdN h
  obtain ⟨h192, h⟩ := gdN h
  obtain ⟨q193, hq193, h⟩ := bindN h
  refine zz_aastoreq (t := 103) (tc := 1) C ddP_init_34 rfl (by decide) (fun _ => rfl) h191 h192 hq193 ?_
  refine zz_iinc (v := 27) (L1 := [(2, .int 27), (0, .ref v0), (1, .ref v1)]) C 0 ddP_init_35 rfl (by decide) N (by decide) rfl ?_
  refine zz_goto (tgt := 15) C ddP_init_38 rfl ?_
  refine zz_iload_n C 0 ddP_init_15 rfl rfl ?_
  refine zz_bipush (v := 40) C ddP_init_16 (by decide) ?_
  refine zz_icmp_ge (tgt := 41) C ddP_init_18 rfl (fun hc => absurd hc (by decide)) (fun hc => ?_)
  refine zz_aload_n C 1 ddP_init_21 rfl rfl ?_
  obtain ⟨h194, h⟩ := gdN h
  obtain ⟨h195, h⟩ := gdN h
  refine zz_getr C ddP_init_22 fl_P_11 rfl h194 (of_decide_eq_true h195) ?_
  refine zz_iload_n C 0 ddP_init_25 rfl rfl ?_
  obtain ⟨q196, hq196, h⟩ := bindN h
  refine zz_new C ddP_init_26 (t := 1) rfl rfl ⟨wd_207, wd_119, wd_6⟩ hg hq196 ⟨by rw [hR]; exact Nat.le_of_ble_eq_true rfl, by rw [hR]; exact Nat.le_of_ble_eq_true rfl⟩ ?_
  refine zz_kn (k1 := 488) (n1 := 46462) (by decide) (by decide) ?_
  refine zz_dup C ddP_init_29 rfl ?_
  refine zz_aload_n C 2 ddP_init_30 rfl rfl ?_
  obtain ⟨q197, hq197, h⟩ := bindN h
  refine zz_callI (As := [.ref v1]) C ddP_init_31 wd_209 my_H_init ⟨rfl, mi_H_init⟩ (xH_init hG hg (d - 1) (by omega) hq197) (by omega) rfl rfl (Nat.le_of_ble_eq_true rfl) ⟨by rw [hR]; exact Nat.le_of_ble_eq_true rfl, by rw [hR]; exact Nat.le_of_ble_eq_true rfl⟩ ?_
  refine zz_kn (k1 := 505) (n1 := 48172) (by decide) (by decide) ?_
  obtain ⟨h198, h⟩ := gdN h
  obtain ⟨h199, h⟩ := gdN h
  obtain ⟨q200, hq200, h⟩ := bindN h
  refine zz_aastoreq (t := 103) (tc := 1) C ddP_init_34 rfl (by decide) (fun _ => rfl) h198 h199 hq200 ?_
  refine zz_iinc (v := 28) (L1 := [(2, .int 28), (0, .ref v0), (1, .ref v1)]) C 0 ddP_init_35 rfl (by decide) N (by decide) rfl ?_
  refine zz_goto (tgt := 15) C ddP_init_38 rfl ?_
  refine zz_iload_n C 0 ddP_init_15 rfl rfl ?_
  refine zz_bipush (v := 40) C ddP_init_16 (by decide) ?_
  refine zz_icmp_ge (tgt := 41) C ddP_init_18 rfl (fun hc => absurd hc (by decide)) (fun hc => ?_)
  refine zz_aload_n C 1 ddP_init_21 rfl rfl ?_
  obtain ⟨h201, h⟩ := gdN h
  obtain ⟨h202, h⟩ := gdN h
  refine zz_getr C ddP_init_22 fl_P_11 rfl h201 (of_decide_eq_true h202) ?_
  refine zz_iload_n C 0 ddP_init_25 rfl rfl ?_
  obtain ⟨q203, hq203, h⟩ := bindN h
  refine zz_new C ddP_init_26 (t := 1) rfl rfl ⟨wd_207, wd_119, wd_6⟩ hg hq203 ⟨by rw [hR]; exact Nat.le_of_ble_eq_true rfl, by rw [hR]; exact Nat.le_of_ble_eq_true rfl⟩ ?_
  refine zz_kn (k1 := 506) (n1 := 48181) (by decide) (by decide) ?_
  refine zz_dup C ddP_init_29 rfl ?_
  refine zz_aload_n C 2 ddP_init_30 rfl rfl ?_
  obtain ⟨q204, hq204, h⟩ := bindN h
  refine zz_callI (As := [.ref v1]) C ddP_init_31 wd_209 my_H_init ⟨rfl, mi_H_init⟩ (xH_init hG hg (d - 1) (by omega) hq204) (by omega) rfl rfl (Nat.le_of_ble_eq_true rfl) ⟨by rw [hR]; exact Nat.le_of_ble_eq_true rfl, by rw [hR]; exact Nat.le_of_ble_eq_true rfl⟩ ?_
  refine zz_kn (k1 := 523) (n1 := 49891) (by decide) (by decide) ?_
  obtain ⟨h205, h⟩ := gdN h
  obtain ⟨h206, h⟩ := gdN h
  obtain ⟨q207, hq207, h⟩ := bindN h
  refine zz_aastoreq (t := 103) (tc := 1) C ddP_init_34 rfl (by decide) (fun _ => rfl) h205 h206 hq207 ?_
  refine zz_iinc (v := 29) (L1 := [(2, .int 29), (0, .ref v0), (1, .ref v1)]) C 0 ddP_init_35 rfl (by decide) N (by decide) rfl ?_
  refine zz_goto (tgt := 15) C ddP_init_38 rfl ?_
  refine zz_iload_n C 0 ddP_init_15 rfl rfl ?_
  refine zz_bipush (v := 40) C ddP_init_16 (by decide) ?_
  refine zz_icmp_ge (tgt := 41) C ddP_init_18 rfl (fun hc => absurd hc (by decide)) (fun hc => ?_)
  refine zz_aload_n C 1 ddP_init_21 rfl rfl ?_
  obtain ⟨h208, h⟩ := gdN h
  obtain ⟨h209, h⟩ := gdN h
  refine zz_getr C ddP_init_22 fl_P_11 rfl h208 (of_decide_eq_true h209) ?_
  refine zz_iload_n C 0 ddP_init_25 rfl rfl ?_
  obtain ⟨q210, hq210, h⟩ := bindN h
  refine zz_new C ddP_init_26 (t := 1) rfl rfl ⟨wd_207, wd_119, wd_6⟩ hg hq210 ⟨by rw [hR]; exact Nat.le_of_ble_eq_true rfl, by rw [hR]; exact Nat.le_of_ble_eq_true rfl⟩ ?_
  refine zz_kn (k1 := 524) (n1 := 49900) (by decide) (by decide) ?_
  refine zz_dup C ddP_init_29 rfl ?_
  refine zz_aload_n C 2 ddP_init_30 rfl rfl ?_
  obtain ⟨q211, hq211, h⟩ := bindN h
  refine zz_callI (As := [.ref v1]) C ddP_init_31 wd_209 my_H_init ⟨rfl, mi_H_init⟩ (xH_init hG hg (d - 1) (by omega) hq211) (by omega) rfl rfl (Nat.le_of_ble_eq_true rfl) ⟨by rw [hR]; exact Nat.le_of_ble_eq_true rfl, by rw [hR]; exact Nat.le_of_ble_eq_true rfl⟩ ?_
  refine zz_kn (k1 := 541) (n1 := 51610) (by decide) (by decide) ?_
  obtain ⟨h212, h⟩ := gdN h
  obtain ⟨h213, h⟩ := gdN h
  obtain ⟨q214, hq214, h⟩ := bindN h
  refine zz_aastoreq (t := 103) (tc := 1) C ddP_init_34 rfl (by decide) (fun _ => rfl) h212 h213 hq214 ?_
  refine zz_iinc (v := 30) (L1 := [(2, .int 30), (0, .ref v0), (1, .ref v1)]) C 0 ddP_init_35 rfl (by decide) N (by decide) rfl ?_
  refine zz_goto (tgt := 15) C ddP_init_38 rfl ?_
  refine zz_iload_n C 0 ddP_init_15 rfl rfl ?_
  refine zz_bipush (v := 40) C ddP_init_16 (by decide) ?_
  refine zz_icmp_ge (tgt := 41) C ddP_init_18 rfl (fun hc => absurd hc (by decide)) (fun hc => ?_)
  refine zz_aload_n C 1 ddP_init_21 rfl rfl ?_
  obtain ⟨h215, h⟩ := gdN h
  obtain ⟨h216, h⟩ := gdN h
  refine zz_getr C ddP_init_22 fl_P_11 rfl h215 (of_decide_eq_true h216) ?_
  refine zz_iload_n C 0 ddP_init_25 rfl rfl ?_
  obtain ⟨q217, hq217, h⟩ := bindN h
  refine zz_new C ddP_init_26 (t := 1) rfl rfl ⟨wd_207, wd_119, wd_6⟩ hg hq217 ⟨by rw [hR]; exact Nat.le_of_ble_eq_true rfl, by rw [hR]; exact Nat.le_of_ble_eq_true rfl⟩ ?_
  refine zz_kn (k1 := 542) (n1 := 51619) (by decide) (by decide) ?_
  refine zz_dup C ddP_init_29 rfl ?_
  refine zz_aload_n C 2 ddP_init_30 rfl rfl ?_
  obtain ⟨q218, hq218, h⟩ := bindN h
  refine zz_callI (As := [.ref v1]) C ddP_init_31 wd_209 my_H_init ⟨rfl, mi_H_init⟩ (xH_init hG hg (d - 1) (by omega) hq218) (by omega) rfl rfl (Nat.le_of_ble_eq_true rfl) ⟨by rw [hR]; exact Nat.le_of_ble_eq_true rfl, by rw [hR]; exact Nat.le_of_ble_eq_true rfl⟩ ?_
  refine zz_kn (k1 := 559) (n1 := 53329) (by decide) (by decide) ?_
  obtain ⟨h219, h⟩ := gdN h
  obtain ⟨h220, h⟩ := gdN h
  obtain ⟨q221, hq221, h⟩ := bindN h
  refine zz_aastoreq (t := 103) (tc := 1) C ddP_init_34 rfl (by decide) (fun _ => rfl) h219 h220 hq221 ?_
  refine zz_iinc (v := 31) (L1 := [(2, .int 31), (0, .ref v0), (1, .ref v1)]) C 0 ddP_init_35 rfl (by decide) N (by decide) rfl ?_
  refine zz_goto (tgt := 15) C ddP_init_38 rfl ?_
  refine zz_iload_n C 0 ddP_init_15 rfl rfl ?_
  refine zz_bipush (v := 40) C ddP_init_16 (by decide) ?_
  refine zz_icmp_ge (tgt := 41) C ddP_init_18 rfl (fun hc => absurd hc (by decide)) (fun hc => ?_)
  refine zz_aload_n C 1 ddP_init_21 rfl rfl ?_
  obtain ⟨h222, h⟩ := gdN h
  obtain ⟨h223, h⟩ := gdN h
  refine zz_getr C ddP_init_22 fl_P_11 rfl h222 (of_decide_eq_true h223) ?_
  refine zz_iload_n C 0 ddP_init_25 rfl rfl ?_
  obtain ⟨q224, hq224, h⟩ := bindN h
  refine zz_new C ddP_init_26 (t := 1) rfl rfl ⟨wd_207, wd_119, wd_6⟩ hg hq224 ⟨by rw [hR]; exact Nat.le_of_ble_eq_true rfl, by rw [hR]; exact Nat.le_of_ble_eq_true rfl⟩ ?_
  refine zz_kn (k1 := 560) (n1 := 53338) (by decide) (by decide) ?_
  refine zz_dup C ddP_init_29 rfl ?_
  refine zz_aload_n C 2 ddP_init_30 rfl rfl ?_
  obtain ⟨q225, hq225, h⟩ := bindN h
  refine zz_callI (As := [.ref v1]) C ddP_init_31 wd_209 my_H_init ⟨rfl, mi_H_init⟩ (xH_init hG hg (d - 1) (by omega) hq225) (by omega) rfl rfl (Nat.le_of_ble_eq_true rfl) ⟨by rw [hR]; exact Nat.le_of_ble_eq_true rfl, by rw [hR]; exact Nat.le_of_ble_eq_true rfl⟩ ?_
  refine zz_kn (k1 := 577) (n1 := 55048) (by decide) (by decide) ?_
  obtain ⟨h226, h⟩ := gdN h
  obtain ⟨h227, h⟩ := gdN h
  obtain ⟨q228, hq228, h⟩ := bindN h
  refine zz_aastoreq (t := 103) (tc := 1) C ddP_init_34 rfl (by decide) (fun _ => rfl) h226 h227 hq228 ?_
  refine zz_iinc (v := 32) (L1 := [(2, .int 32), (0, .ref v0), (1, .ref v1)]) C 0 ddP_init_35 rfl (by decide) N (by decide) rfl ?_
  refine zz_goto (tgt := 15) C ddP_init_38 rfl ?_
  refine zz_iload_n C 0 ddP_init_15 rfl rfl ?_
  refine zz_bipush (v := 40) C ddP_init_16 (by decide) ?_
  refine zz_icmp_ge (tgt := 41) C ddP_init_18 rfl (fun hc => absurd hc (by decide)) (fun hc => ?_)
  refine zz_aload_n C 1 ddP_init_21 rfl rfl ?_
  obtain ⟨h229, h⟩ := gdN h
  obtain ⟨h230, h⟩ := gdN h
  refine zz_getr C ddP_init_22 fl_P_11 rfl h229 (of_decide_eq_true h230) ?_
  refine zz_iload_n C 0 ddP_init_25 rfl rfl ?_
  obtain ⟨q231, hq231, h⟩ := bindN h
  refine zz_new C ddP_init_26 (t := 1) rfl rfl ⟨wd_207, wd_119, wd_6⟩ hg hq231 ⟨by rw [hR]; exact Nat.le_of_ble_eq_true rfl, by rw [hR]; exact Nat.le_of_ble_eq_true rfl⟩ ?_
  refine zz_kn (k1 := 578) (n1 := 55057) (by decide) (by decide) ?_
  refine zz_dup C ddP_init_29 rfl ?_
  refine zz_aload_n C 2 ddP_init_30 rfl rfl ?_
  obtain ⟨q232, hq232, h⟩ := bindN h
  refine zz_callI (As := [.ref v1]) C ddP_init_31 wd_209 my_H_init ⟨rfl, mi_H_init⟩ (xH_init hG hg (d - 1) (by omega) hq232) (by omega) rfl rfl (Nat.le_of_ble_eq_true rfl) ⟨by rw [hR]; exact Nat.le_of_ble_eq_true rfl, by rw [hR]; exact Nat.le_of_ble_eq_true rfl⟩ ?_
  refine zz_kn (k1 := 595) (n1 := 56767) (by decide) (by decide) ?_
  obtain ⟨h233, h⟩ := gdN h
  obtain ⟨h234, h⟩ := gdN h
  obtain ⟨q235, hq235, h⟩ := bindN h
  refine zz_aastoreq (t := 103) (tc := 1) C ddP_init_34 rfl (by decide) (fun _ => rfl) h233 h234 hq235 ?_
  refine zz_iinc (v := 33) (L1 := [(2, .int 33), (0, .ref v0), (1, .ref v1)]) C 0 ddP_init_35 rfl (by decide) N (by decide) rfl ?_
  refine zz_goto (tgt := 15) C ddP_init_38 rfl ?_
  refine zz_iload_n C 0 ddP_init_15 rfl rfl ?_
  refine zz_bipush (v := 40) C ddP_init_16 (by decide) ?_
  refine zz_icmp_ge (tgt := 41) C ddP_init_18 rfl (fun hc => absurd hc (by decide)) (fun hc => ?_)
  refine zz_aload_n C 1 ddP_init_21 rfl rfl ?_
  obtain ⟨h236, h⟩ := gdN h
  obtain ⟨h237, h⟩ := gdN h
  refine zz_getr C ddP_init_22 fl_P_11 rfl h236 (of_decide_eq_true h237) ?_
  refine zz_iload_n C 0 ddP_init_25 rfl rfl ?_
  obtain ⟨q238, hq238, h⟩ := bindN h
  refine zz_new C ddP_init_26 (t := 1) rfl rfl ⟨wd_207, wd_119, wd_6⟩ hg hq238 ⟨by rw [hR]; exact Nat.le_of_ble_eq_true rfl, by rw [hR]; exact Nat.le_of_ble_eq_true rfl⟩ ?_
  refine zz_kn (k1 := 596) (n1 := 56776) (by decide) (by decide) ?_
  refine zz_dup C ddP_init_29 rfl ?_
  refine zz_aload_n C 2 ddP_init_30 rfl rfl ?_
  obtain ⟨q239, hq239, h⟩ := bindN h
  refine zz_callI (As := [.ref v1]) C ddP_init_31 wd_209 my_H_init ⟨rfl, mi_H_init⟩ (xH_init hG hg (d - 1) (by omega) hq239) (by omega) rfl rfl (Nat.le_of_ble_eq_true rfl) ⟨by rw [hR]; exact Nat.le_of_ble_eq_true rfl, by rw [hR]; exact Nat.le_of_ble_eq_true rfl⟩ ?_
  refine zz_kn (k1 := 613) (n1 := 58486) (by decide) (by decide) ?_
  obtain ⟨h240, h⟩ := gdN h
  obtain ⟨h241, h⟩ := gdN h
  obtain ⟨q242, hq242, h⟩ := bindN h
  refine zz_aastoreq (t := 103) (tc := 1) C ddP_init_34 rfl (by decide) (fun _ => rfl) h240 h241 hq242 ?_
  refine zz_iinc (v := 34) (L1 := [(2, .int 34), (0, .ref v0), (1, .ref v1)]) C 0 ddP_init_35 rfl (by decide) N (by decide) rfl ?_
  refine zz_goto (tgt := 15) C ddP_init_38 rfl ?_
  refine zz_iload_n C 0 ddP_init_15 rfl rfl ?_
  refine zz_bipush (v := 40) C ddP_init_16 (by decide) ?_
  refine zz_icmp_ge (tgt := 41) C ddP_init_18 rfl (fun hc => absurd hc (by decide)) (fun hc => ?_)
  refine zz_aload_n C 1 ddP_init_21 rfl rfl ?_
  obtain ⟨h243, h⟩ := gdN h
  obtain ⟨h244, h⟩ := gdN h
  refine zz_getr C ddP_init_22 fl_P_11 rfl h243 (of_decide_eq_true h244) ?_
  refine zz_iload_n C 0 ddP_init_25 rfl rfl ?_
  obtain ⟨q245, hq245, h⟩ := bindN h
  refine zz_new C ddP_init_26 (t := 1) rfl rfl ⟨wd_207, wd_119, wd_6⟩ hg hq245 ⟨by rw [hR]; exact Nat.le_of_ble_eq_true rfl, by rw [hR]; exact Nat.le_of_ble_eq_true rfl⟩ ?_
  refine zz_kn (k1 := 614) (n1 := 58495) (by decide) (by decide) ?_
  refine zz_dup C ddP_init_29 rfl ?_
  refine zz_aload_n C 2 ddP_init_30 rfl rfl ?_
  obtain ⟨q246, hq246, h⟩ := bindN h
  refine zz_callI (As := [.ref v1]) C ddP_init_31 wd_209 my_H_init ⟨rfl, mi_H_init⟩ (xH_init hG hg (d - 1) (by omega) hq246) (by omega) rfl rfl (Nat.le_of_ble_eq_true rfl) ⟨by rw [hR]; exact Nat.le_of_ble_eq_true rfl, by rw [hR]; exact Nat.le_of_ble_eq_true rfl⟩ ?_
  refine zz_kn (k1 := 631) (n1 := 60205) (by decide) (by decide) ?_
  obtain ⟨h247, h⟩ := gdN h
  obtain ⟨h248, h⟩ := gdN h
  obtain ⟨q249, hq249, h⟩ := bindN h
  refine zz_aastoreq (t := 103) (tc := 1) C ddP_init_34 rfl (by decide) (fun _ => rfl) h247 h248 hq249 ?_
  refine zz_iinc (v := 35) (L1 := [(2, .int 35), (0, .ref v0), (1, .ref v1)]) C 0 ddP_init_35 rfl (by decide) N (by decide) rfl ?_
  refine zz_goto (tgt := 15) C ddP_init_38 rfl ?_
  refine zz_iload_n C 0 ddP_init_15 rfl rfl ?_
  refine zz_bipush (v := 40) C ddP_init_16 (by decide) ?_
  refine zz_icmp_ge (tgt := 41) C ddP_init_18 rfl (fun hc => absurd hc (by decide)) (fun hc => ?_)
  refine zz_aload_n C 1 ddP_init_21 rfl rfl ?_
  obtain ⟨h250, h⟩ := gdN h
  obtain ⟨h251, h⟩ := gdN h
  refine zz_getr C ddP_init_22 fl_P_11 rfl h250 (of_decide_eq_true h251) ?_
  refine zz_iload_n C 0 ddP_init_25 rfl rfl ?_
  obtain ⟨q252, hq252, h⟩ := bindN h
  refine zz_new C ddP_init_26 (t := 1) rfl rfl ⟨wd_207, wd_119, wd_6⟩ hg hq252 ⟨by rw [hR]; exact Nat.le_of_ble_eq_true rfl, by rw [hR]; exact Nat.le_of_ble_eq_true rfl⟩ ?_
  refine zz_kn (k1 := 632) (n1 := 60214) (by decide) (by decide) ?_
  refine zz_dup C ddP_init_29 rfl ?_
  refine zz_aload_n C 2 ddP_init_30 rfl rfl ?_
  obtain ⟨q253, hq253, h⟩ := bindN h
  refine zz_callI (As := [.ref v1]) C ddP_init_31 wd_209 my_H_init ⟨rfl, mi_H_init⟩ (xH_init hG hg (d - 1) (by omega) hq253) (by omega) rfl rfl (Nat.le_of_ble_eq_true rfl) ⟨by rw [hR]; exact Nat.le_of_ble_eq_true rfl, by rw [hR]; exact Nat.le_of_ble_eq_true rfl⟩ ?_
  refine zz_kn (k1 := 649) (n1 := 61924) (by decide) (by decide) ?_
  obtain ⟨h254, h⟩ := gdN h
  obtain ⟨h255, h⟩ := gdN h
  obtain ⟨q256, hq256, h⟩ := bindN h
  refine zz_aastoreq (t := 103) (tc := 1) C ddP_init_34 rfl (by decide) (fun _ => rfl) h254 h255 hq256 ?_
  refine zz_iinc (v := 36) (L1 := [(2, .int 36), (0, .ref v0), (1, .ref v1)]) C 0 ddP_init_35 rfl (by decide) N (by decide) rfl ?_
  refine zz_goto (tgt := 15) C ddP_init_38 rfl ?_
  refine zz_iload_n C 0 ddP_init_15 rfl rfl ?_
  refine zz_bipush (v := 40) C ddP_init_16 (by decide) ?_
  refine zz_icmp_ge (tgt := 41) C ddP_init_18 rfl (fun hc => absurd hc (by decide)) (fun hc => ?_)
  refine zz_aload_n C 1 ddP_init_21 rfl rfl ?_
  obtain ⟨h257, h⟩ := gdN h
  obtain ⟨h258, h⟩ := gdN h
  refine zz_getr C ddP_init_22 fl_P_11 rfl h257 (of_decide_eq_true h258) ?_
  refine zz_iload_n C 0 ddP_init_25 rfl rfl ?_
  obtain ⟨q259, hq259, h⟩ := bindN h
  refine zz_new C ddP_init_26 (t := 1) rfl rfl ⟨wd_207, wd_119, wd_6⟩ hg hq259 ⟨by rw [hR]; exact Nat.le_of_ble_eq_true rfl, by rw [hR]; exact Nat.le_of_ble_eq_true rfl⟩ ?_
  refine zz_kn (k1 := 650) (n1 := 61933) (by decide) (by decide) ?_
  refine zz_dup C ddP_init_29 rfl ?_
  refine zz_aload_n C 2 ddP_init_30 rfl rfl ?_
  obtain ⟨q260, hq260, h⟩ := bindN h
  refine zz_callI (As := [.ref v1]) C ddP_init_31 wd_209 my_H_init ⟨rfl, mi_H_init⟩ (xH_init hG hg (d - 1) (by omega) hq260) (by omega) rfl rfl (Nat.le_of_ble_eq_true rfl) ⟨by rw [hR]; exact Nat.le_of_ble_eq_true rfl, by rw [hR]; exact Nat.le_of_ble_eq_true rfl⟩ ?_
  refine zz_kn (k1 := 667) (n1 := 63643) (by decide) (by decide) ?_
  obtain ⟨h261, h⟩ := gdN h
  obtain ⟨h262, h⟩ := gdN h
  obtain ⟨q263, hq263, h⟩ := bindN h
  refine zz_aastoreq (t := 103) (tc := 1) C ddP_init_34 rfl (by decide) (fun _ => rfl) h261 h262 hq263 ?_
  refine zz_iinc (v := 37) (L1 := [(2, .int 37), (0, .ref v0), (1, .ref v1)]) C 0 ddP_init_35 rfl (by decide) N (by decide) rfl ?_
  refine zz_goto (tgt := 15) C ddP_init_38 rfl ?_
  refine zz_iload_n C 0 ddP_init_15 rfl rfl ?_
  refine zz_bipush (v := 40) C ddP_init_16 (by decide) ?_
  refine zz_icmp_ge (tgt := 41) C ddP_init_18 rfl (fun hc => absurd hc (by decide)) (fun hc => ?_)
  refine zz_aload_n C 1 ddP_init_21 rfl rfl ?_
  obtain ⟨h264, h⟩ := gdN h
  obtain ⟨h265, h⟩ := gdN h
  refine zz_getr C ddP_init_22 fl_P_11 rfl h264 (of_decide_eq_true h265) ?_
  refine zz_iload_n C 0 ddP_init_25 rfl rfl ?_
  obtain ⟨q266, hq266, h⟩ := bindN h
  refine zz_new C ddP_init_26 (t := 1) rfl rfl ⟨wd_207, wd_119, wd_6⟩ hg hq266 ⟨by rw [hR]; exact Nat.le_of_ble_eq_true rfl, by rw [hR]; exact Nat.le_of_ble_eq_true rfl⟩ ?_
  refine zz_kn (k1 := 668) (n1 := 63652) (by decide) (by decide) ?_
  refine zz_dup C ddP_init_29 rfl ?_
  refine zz_aload_n C 2 ddP_init_30 rfl rfl ?_
  obtain ⟨q267, hq267, h⟩ := bindN h
  refine zz_callI (As := [.ref v1]) C ddP_init_31 wd_209 my_H_init ⟨rfl, mi_H_init⟩ (xH_init hG hg (d - 1) (by omega) hq267) (by omega) rfl rfl (Nat.le_of_ble_eq_true rfl) ⟨by rw [hR]; exact Nat.le_of_ble_eq_true rfl, by rw [hR]; exact Nat.le_of_ble_eq_true rfl⟩ ?_
  refine zz_kn (k1 := 685) (n1 := 65362) (by decide) (by decide) ?_
  obtain ⟨h268, h⟩ := gdN h
  obtain ⟨h269, h⟩ := gdN h
  obtain ⟨q270, hq270, h⟩ := bindN h
  refine zz_aastoreq (t := 103) (tc := 1) C ddP_init_34 rfl (by decide) (fun _ => rfl) h268 h269 hq270 ?_
  refine zz_iinc (v := 38) (L1 := [(2, .int 38), (0, .ref v0), (1, .ref v1)]) C 0 ddP_init_35 rfl (by decide) N (by decide) rfl ?_
  refine zz_goto (tgt := 15) C ddP_init_38 rfl ?_
  refine zz_iload_n C 0 ddP_init_15 rfl rfl ?_
  refine zz_bipush (v := 40) C ddP_init_16 (by decide) ?_
  refine zz_icmp_ge (tgt := 41) C ddP_init_18 rfl (fun hc => absurd hc (by decide)) (fun hc => ?_)
  refine zz_aload_n C 1 ddP_init_21 rfl rfl ?_
  obtain ⟨h271, h⟩ := gdN h
  obtain ⟨h272, h⟩ := gdN h
  refine zz_getr C ddP_init_22 fl_P_11 rfl h271 (of_decide_eq_true h272) ?_
  refine zz_iload_n C 0 ddP_init_25 rfl rfl ?_
  obtain ⟨q273, hq273, h⟩ := bindN h
  refine zz_new C ddP_init_26 (t := 1) rfl rfl ⟨wd_207, wd_119, wd_6⟩ hg hq273 ⟨by rw [hR]; exact Nat.le_of_ble_eq_true rfl, by rw [hR]; exact Nat.le_of_ble_eq_true rfl⟩ ?_
  refine zz_kn (k1 := 686) (n1 := 65371) (by decide) (by decide) ?_
  refine zz_dup C ddP_init_29 rfl ?_
  refine zz_aload_n C 2 ddP_init_30 rfl rfl ?_
  obtain ⟨q274, hq274, h⟩ := bindN h
  refine zz_callI (As := [.ref v1]) C ddP_init_31 wd_209 my_H_init ⟨rfl, mi_H_init⟩ (xH_init hG hg (d - 1) (by omega) hq274) (by omega) rfl rfl (Nat.le_of_ble_eq_true rfl) ⟨by rw [hR]; exact Nat.le_of_ble_eq_true rfl, by rw [hR]; exact Nat.le_of_ble_eq_true rfl⟩ ?_
  refine zz_kn (k1 := 703) (n1 := 67081) (by decide) (by decide) ?_
  obtain ⟨h275, h⟩ := gdN h
  obtain ⟨h276, h⟩ := gdN h
  obtain ⟨q277, hq277, h⟩ := bindN h
  refine zz_aastoreq (t := 103) (tc := 1) C ddP_init_34 rfl (by decide) (fun _ => rfl) h275 h276 hq277 ?_
  refine zz_iinc (v := 39) (L1 := [(2, .int 39), (0, .ref v0), (1, .ref v1)]) C 0 ddP_init_35 rfl (by decide) N (by decide) rfl ?_
  refine zz_goto (tgt := 15) C ddP_init_38 rfl ?_
  refine zz_iload_n C 0 ddP_init_15 rfl rfl ?_
  refine zz_bipush (v := 40) C ddP_init_16 (by decide) ?_
  refine zz_icmp_ge (tgt := 41) C ddP_init_18 rfl (fun hc => absurd hc (by decide)) (fun hc => ?_)
  refine zz_aload_n C 1 ddP_init_21 rfl rfl ?_
  obtain ⟨h278, h⟩ := gdN h
  obtain ⟨h279, h⟩ := gdN h
  refine zz_getr C ddP_init_22 fl_P_11 rfl h278 (of_decide_eq_true h279) ?_
  refine zz_iload_n C 0 ddP_init_25 rfl rfl ?_
  obtain ⟨q280, hq280, h⟩ := bindN h
  refine zz_new C ddP_init_26 (t := 1) rfl rfl ⟨wd_207, wd_119, wd_6⟩ hg hq280 ⟨by rw [hR]; exact Nat.le_of_ble_eq_true rfl, by rw [hR]; exact Nat.le_of_ble_eq_true rfl⟩ ?_
  refine zz_kn (k1 := 704) (n1 := 67090) (by decide) (by decide) ?_
  refine zz_dup C ddP_init_29 rfl ?_
  refine zz_aload_n C 2 ddP_init_30 rfl rfl ?_
  obtain ⟨q281, hq281, h⟩ := bindN h
  refine zz_callI (As := [.ref v1]) C ddP_init_31 wd_209 my_H_init ⟨rfl, mi_H_init⟩ (xH_init hG hg (d - 1) (by omega) hq281) (by omega) rfl rfl (Nat.le_of_ble_eq_true rfl) ⟨by rw [hR]; exact Nat.le_of_ble_eq_true rfl, by rw [hR]; exact Nat.le_of_ble_eq_true rfl⟩ ?_
  refine zz_kn (k1 := 721) (n1 := 68800) (by decide) (by decide) ?_
  obtain ⟨h282, h⟩ := gdN h
  obtain ⟨h283, h⟩ := gdN h
  obtain ⟨q284, hq284, h⟩ := bindN h
  refine zz_aastoreq (t := 103) (tc := 1) C ddP_init_34 rfl (by decide) (fun _ => rfl) h282 h283 hq284 ?_
  refine zz_iinc (v := 40) (L1 := [(2, .int 40), (0, .ref v0), (1, .ref v1)]) C 0 ddP_init_35 rfl (by decide) N (by decide) rfl ?_
  refine zz_goto (tgt := 15) C ddP_init_38 rfl ?_
  refine zz_iload_n C 0 ddP_init_15 rfl rfl ?_
  refine zz_bipush (v := 40) C ddP_init_16 (by decide) ?_
  refine zz_icmp_ge (tgt := 41) C ddP_init_18 rfl (fun hc => ?_) (fun hc => absurd hc (by decide))
  refine zz_aload_n C 1 ddP_init_41 rfl rfl ?_
  refine zz_iconst (v := 0) C ddP_init_42 (by decide) ?_
  obtain ⟨h285, h⟩ := gdN h
  refine zz_puti C ddP_init_43 fl_P_20 rfl rfl rfl h285 ?_
  refine zz_aload_n C 1 ddP_init_46 rfl rfl ?_
  refine zz_iconst (v := 0) C ddP_init_47 (by decide) ?_
  refine zz_puti C ddP_init_48 fl_P_24 rfl rfl rfl h285 ?_
  obtain rfl := Option.some.inj h
  exact zz_vret C E ddP_init_51
theorem ddG_init_0 : decode cG_init 0 = .ok (.aload_n 0, 1) := by decide +kernel
theorem ddG_init_1 : decode cG_init 1 = .ok (.invokespecial 3, 3) := by decide +kernel
theorem ddG_init_4 : decode cG_init 4 = .ok (.aload_n 0, 1) := by decide +kernel
theorem ddG_init_5 : decode cG_init 5 = .ok (.bipush 24, 2) := by decide +kernel
theorem ddG_init_7 : decode cG_init 7 = .ok (.newarray .int, 2) := by decide +kernel
theorem ddG_init_9 : decode cG_init 9 = .ok (.putfield 9, 3) := by decide +kernel
theorem ddG_init_12 : decode cG_init 12 = .ok (.aload_n 0, 1) := by decide +kernel
theorem ddG_init_13 : decode cG_init 13 = .ok (.bipush 24, 2) := by decide +kernel
theorem ddG_init_15 : decode cG_init 15 = .ok (.newarray .int, 2) := by decide +kernel
theorem ddG_init_17 : decode cG_init 17 = .ok (.putfield 15, 3) := by decide +kernel
theorem ddG_init_20 : decode cG_init 20 = .ok (.aload_n 0, 1) := by decide +kernel
theorem ddG_init_21 : decode cG_init 21 = .ok (.bipush 24, 2) := by decide +kernel
theorem ddG_init_23 : decode cG_init 23 = .ok (.newarray .int, 2) := by decide +kernel
theorem ddG_init_25 : decode cG_init 25 = .ok (.putfield 18, 3) := by decide +kernel
theorem ddG_init_28 : decode cG_init 28 = .ok (.aload_n 0, 1) := by decide +kernel
theorem ddG_init_29 : decode cG_init 29 = .ok (.iconst 0, 1) := by decide +kernel
theorem ddG_init_30 : decode cG_init 30 = .ok (.putfield 21, 3) := by decide +kernel
theorem ddG_init_33 : decode cG_init 33 = .ok (.aload_n 0, 1) := by decide +kernel
theorem ddG_init_34 : decode cG_init 34 = .ok (.iconst 0, 1) := by decide +kernel
theorem ddG_init_35 : decode cG_init 35 = .ok (.putfield 25, 3) := by decide +kernel
theorem ddG_init_38 : decode cG_init 38 = .ok (.return_, 1) := by decide +kernel
set_option maxHeartbeats 8000000 in
set_option maxRecDepth 100000 in
theorem xG_init {G : GXM} {l : Launch} (hG : GokM G) (hg : G.2.2.2.2 = true) (d : Nat) (hd : 1 ≤ d) {v0 : Nat} {M : Mem} {q : Mem} (h : fG_init v0 M = some q) : ExM G l d 3 (72) yG_init cG_init 1 none [.ref v0] M none q := by
  refine ex_of hG (by decide +kernel) (Nat.le_of_ble_eq_true rfl) ?_
  intro X hl C E N hD hn
  have hR := EnM_R E
  show ZM G X 0 [(0, .ref v0)] [] M 0 0
  unfold fG_init at h
  refine zz_aload_n C 0 ddG_init_0 rfl rfl ?_
  refine zz_objInit C ddG_init_1 wd_235 ⟨wd_31, wd_32⟩ (by omega) (Nat.le_of_ble_eq_true rfl) ?_
  refine zz_aload_n C 0 ddG_init_4 rfl rfl ?_
  refine zz_bipush (v := 24) C ddG_init_5 (by decide) ?_
  obtain ⟨q1, hq1, h⟩ := bindN h
  refine zz_newI C ddG_init_7 wd_49 hg (by decide) (by decide) hq1 ⟨by rw [hR]; exact Nat.le_of_ble_eq_true rfl, by rw [hR]; exact Nat.le_of_ble_eq_true rfl⟩ ?_
  refine zz_kn (k1 := 1) (n1 := 24) (by decide) (by decide) ?_
  obtain ⟨h2, h⟩ := gdN h
  obtain ⟨h3, h⟩ := gdN h
  obtain ⟨q4, hq4, h⟩ := bindN h
  refine zz_putrq C ddG_init_9 fl_G_9 (Or.inr ⟨hn, _, rfl, rfl⟩) rfl (fun _ => rfl) (fun _ => rfl) h2 (of_decide_eq_true h3) hq4 ?_
  refine zz_aload_n C 0 ddG_init_12 rfl rfl ?_
  refine zz_bipush (v := 24) C ddG_init_13 (by decide) ?_
  obtain ⟨q5, hq5, h⟩ := bindN h
  refine zz_newI C ddG_init_15 wd_49 hg (by decide) (by decide) hq5 ⟨by rw [hR]; exact Nat.le_of_ble_eq_true rfl, by rw [hR]; exact Nat.le_of_ble_eq_true rfl⟩ ?_
  refine zz_kn (k1 := 2) (n1 := 48) (by decide) (by decide) ?_
  obtain ⟨h6, h⟩ := gdN h
  obtain ⟨h7, h⟩ := gdN h
  obtain ⟨q8, hq8, h⟩ := bindN h
  refine zz_putrq C ddG_init_17 fl_G_15 (Or.inr ⟨hn, _, rfl, rfl⟩) rfl (fun _ => rfl) (fun _ => rfl) h6 (of_decide_eq_true h7) hq8 ?_
  refine zz_aload_n C 0 ddG_init_20 rfl rfl ?_
  refine zz_bipush (v := 24) C ddG_init_21 (by decide) ?_
  obtain ⟨q9, hq9, h⟩ := bindN h
  refine zz_newI C ddG_init_23 wd_49 hg (by decide) (by decide) hq9 ⟨by rw [hR]; exact Nat.le_of_ble_eq_true rfl, by rw [hR]; exact Nat.le_of_ble_eq_true rfl⟩ ?_
  refine zz_kn (k1 := 3) (n1 := 72) (by decide) (by decide) ?_
  obtain ⟨h10, h⟩ := gdN h
  obtain ⟨h11, h⟩ := gdN h
  obtain ⟨q12, hq12, h⟩ := bindN h
  refine zz_putrq C ddG_init_25 fl_G_18 (Or.inr ⟨hn, _, rfl, rfl⟩) rfl (fun _ => rfl) (fun _ => rfl) h10 (of_decide_eq_true h11) hq12 ?_
  refine zz_aload_n C 0 ddG_init_28 rfl rfl ?_
  refine zz_iconst (v := 0) C ddG_init_29 (by decide) ?_
  obtain ⟨h13, h⟩ := gdN h
  refine zz_puti C ddG_init_30 fl_G_21 rfl rfl rfl h13 ?_
  refine zz_aload_n C 0 ddG_init_33 rfl rfl ?_
  refine zz_iconst (v := 0) C ddG_init_34 (by decide) ?_
  refine zz_puti C ddG_init_35 fl_G_25 rfl rfl rfl h13 ?_
  obtain rfl := Option.some.inj h
  exact zz_vret C E ddG_init_38
theorem ddX_init_0 : decode cX_init 0 = .ok (.aload_n 0, 1) := by decide +kernel
theorem ddX_init_1 : decode cX_init 1 = .ok (.invokespecial 3, 3) := by decide +kernel
theorem ddX_init_4 : decode cX_init 4 = .ok (.aload_n 0, 1) := by decide +kernel
theorem ddX_init_5 : decode cX_init 5 = .ok (.bipush 7, 2) := by decide +kernel
theorem ddX_init_7 : decode cX_init 7 = .ok (.anewarray 9, 3) := by decide +kernel
theorem ddX_init_10 : decode cX_init 10 = .ok (.putfield 11, 3) := by decide +kernel
theorem ddX_init_13 : decode cX_init 13 = .ok (.aload_n 0, 1) := by decide +kernel
theorem ddX_init_14 : decode cX_init 14 = .ok (.bipush 7, 2) := by decide +kernel
theorem ddX_init_16 : decode cX_init 16 = .ok (.anewarray 17, 3) := by decide +kernel
theorem ddX_init_19 : decode cX_init 19 = .ok (.putfield 19, 3) := by decide +kernel
theorem ddX_init_22 : decode cX_init 22 = .ok (.aload_n 0, 1) := by decide +kernel
theorem ddX_init_23 : decode cX_init 23 = .ok (.bipush 7, 2) := by decide +kernel
theorem ddX_init_25 : decode cX_init 25 = .ok (.anewarray 17, 3) := by decide +kernel
theorem ddX_init_28 : decode cX_init 28 = .ok (.putfield 23, 3) := by decide +kernel
theorem ddX_init_31 : decode cX_init 31 = .ok (.iconst 0, 1) := by decide +kernel
theorem ddX_init_32 : decode cX_init 32 = .ok (.istore_n 2, 1) := by decide +kernel
theorem ddX_init_33 : decode cX_init 33 = .ok (.iload_n 2, 1) := by decide +kernel
theorem ddX_init_34 : decode cX_init 34 = .ok (.aload_n 0, 1) := by decide +kernel
theorem ddX_init_35 : decode cX_init 35 = .ok (.getfield 11, 3) := by decide +kernel
theorem ddX_init_38 : decode cX_init 38 = .ok (.arraylength, 1) := by decide +kernel
theorem ddX_init_39 : decode cX_init 39 = .ok (.if_icmp .ge 49, 3) := by decide +kernel
theorem ddX_init_42 : decode cX_init 42 = .ok (.aload_n 0, 1) := by decide +kernel
theorem ddX_init_43 : decode cX_init 43 = .ok (.getfield 11, 3) := by decide +kernel
theorem ddX_init_46 : decode cX_init 46 = .ok (.iload_n 2, 1) := by decide +kernel
theorem ddX_init_47 : decode cX_init 47 = .ok (.new 9, 3) := by decide +kernel
theorem ddX_init_50 : decode cX_init 50 = .ok (.dup, 1) := by decide +kernel
theorem ddX_init_51 : decode cX_init 51 = .ok (.aload_n 1, 1) := by decide +kernel
theorem ddX_init_52 : decode cX_init 52 = .ok (.invokespecial 26, 3) := by decide +kernel
theorem ddX_init_55 : decode cX_init 55 = .ok (.aastore, 1) := by decide +kernel
theorem ddX_init_56 : decode cX_init 56 = .ok (.aload_n 0, 1) := by decide +kernel
theorem ddX_init_57 : decode cX_init 57 = .ok (.getfield 19, 3) := by decide +kernel
theorem ddX_init_60 : decode cX_init 60 = .ok (.iload_n 2, 1) := by decide +kernel
theorem ddX_init_61 : decode cX_init 61 = .ok (.new 17, 3) := by decide +kernel
theorem ddX_init_64 : decode cX_init 64 = .ok (.dup, 1) := by decide +kernel
theorem ddX_init_65 : decode cX_init 65 = .ok (.invokespecial 29, 3) := by decide +kernel
theorem ddX_init_68 : decode cX_init 68 = .ok (.aastore, 1) := by decide +kernel
theorem ddX_init_69 : decode cX_init 69 = .ok (.aload_n 0, 1) := by decide +kernel
theorem ddX_init_70 : decode cX_init 70 = .ok (.getfield 23, 3) := by decide +kernel
theorem ddX_init_73 : decode cX_init 73 = .ok (.iload_n 2, 1) := by decide +kernel
theorem ddX_init_74 : decode cX_init 74 = .ok (.new 17, 3) := by decide +kernel
theorem ddX_init_77 : decode cX_init 77 = .ok (.dup, 1) := by decide +kernel
theorem ddX_init_78 : decode cX_init 78 = .ok (.invokespecial 29, 3) := by decide +kernel
theorem ddX_init_81 : decode cX_init 81 = .ok (.aastore, 1) := by decide +kernel
theorem ddX_init_82 : decode cX_init 82 = .ok (.iinc 2 1, 3) := by decide +kernel
theorem ddX_init_85 : decode cX_init 85 = .ok (.goto (-52), 3) := by decide +kernel
theorem ddX_init_88 : decode cX_init 88 = .ok (.aload_n 0, 1) := by decide +kernel
theorem ddX_init_89 : decode cX_init 89 = .ok (.new 30, 3) := by decide +kernel
theorem ddX_init_92 : decode cX_init 92 = .ok (.dup, 1) := by decide +kernel
theorem ddX_init_93 : decode cX_init 93 = .ok (.invokespecial 32, 3) := by decide +kernel
theorem ddX_init_96 : decode cX_init 96 = .ok (.putfield 33, 3) := by decide +kernel
theorem ddX_init_99 : decode cX_init 99 = .ok (.aload_n 0, 1) := by decide +kernel
theorem ddX_init_100 : decode cX_init 100 = .ok (.aload_n 0, 1) := by decide +kernel
theorem ddX_init_101 : decode cX_init 101 = .ok (.getfield 33, 3) := by decide +kernel
theorem ddX_init_104 : decode cX_init 104 = .ok (.putfield 37, 3) := by decide +kernel
theorem ddX_init_107 : decode cX_init 107 = .ok (.return_, 1) := by decide +kernel
set_option maxHeartbeats 8000000 in
set_option maxRecDepth 100000 in
theorem xX_init {G : GXM} {l : Launch} (hG : GokM G) (hg : G.2.2.2.2 = true) (d : Nat) (hd : 3 ≤ d) {v0 : Nat} {v1 : Nat} {M : Mem} {q : Mem} (h : fX_init v0 v1 M = some q) : ExM G l d 189 (13208) yX_init cX_init 3 none [.ref v0, .ref v1] M none q := by
  refine ex_of hG (by decide +kernel) (Nat.le_of_ble_eq_true rfl) ?_
  intro X hl C E N hD hn
  have hR := EnM_R E
  show ZM G X 0 [(0, .ref v0), (1, .ref v1)] [] M 0 0
  unfold fX_init at h
  refine zz_aload_n C 0 ddX_init_0 rfl rfl ?_
  refine zz_objInit C ddX_init_1 wd_226 ⟨wd_31, wd_32⟩ (by omega) (Nat.le_of_ble_eq_true rfl) ?_
  refine zz_aload_n C 0 ddX_init_4 rfl rfl ?_
  refine zz_bipush (v := 7) C ddX_init_5 (by decide) ?_
  obtain ⟨q1, hq1, h⟩ := bindN h
  refine zz_newR (t := 103) C ddX_init_7 wd_227 wd_208 (by decide) (fun _ => rfl) hg (by decide) (by decide) hq1 ⟨by rw [hR]; exact Nat.le_of_ble_eq_true rfl, by rw [hR]; exact Nat.le_of_ble_eq_true rfl⟩ ?_
  refine zz_kn (k1 := 1) (n1 := 7) (by decide) (by decide) ?_
  obtain ⟨h2, h⟩ := gdN h
  obtain ⟨h3, h⟩ := gdN h
  obtain ⟨q4, hq4, h⟩ := bindN h
  refine zz_putrq C ddX_init_10 fl_X_11 (Or.inr ⟨hn, _, rfl, rfl⟩) rfl (fun _ => rfl) (fun _ => rfl) h2 (of_decide_eq_true h3) hq4 ?_
  refine zz_aload_n C 0 ddX_init_13 rfl rfl ?_
  refine zz_bipush (v := 7) C ddX_init_14 (by decide) ?_
  obtain ⟨q5, hq5, h⟩ := bindN h
  refine zz_newR (t := 105) C ddX_init_16 wd_228 wd_229 (by decide) (fun _ => rfl) hg (by decide) (by decide) hq5 ⟨by rw [hR]; exact Nat.le_of_ble_eq_true rfl, by rw [hR]; exact Nat.le_of_ble_eq_true rfl⟩ ?_
  refine zz_kn (k1 := 2) (n1 := 14) (by decide) (by decide) ?_
  obtain ⟨h6, h⟩ := gdN h
  obtain ⟨h7, h⟩ := gdN h
  obtain ⟨q8, hq8, h⟩ := bindN h
  refine zz_putrq C ddX_init_19 fl_X_19 (Or.inr ⟨hn, _, rfl, rfl⟩) rfl (fun _ => rfl) (fun _ => rfl) h6 (of_decide_eq_true h7) hq8 ?_
  refine zz_aload_n C 0 ddX_init_22 rfl rfl ?_
  refine zz_bipush (v := 7) C ddX_init_23 (by decide) ?_
  obtain ⟨q9, hq9, h⟩ := bindN h
  refine zz_newR (t := 105) C ddX_init_25 wd_228 wd_229 (by decide) (fun _ => rfl) hg (by decide) (by decide) hq9 ⟨by rw [hR]; exact Nat.le_of_ble_eq_true rfl, by rw [hR]; exact Nat.le_of_ble_eq_true rfl⟩ ?_
  refine zz_kn (k1 := 3) (n1 := 21) (by decide) (by decide) ?_
  obtain ⟨h10, h⟩ := gdN h
  obtain ⟨h11, h⟩ := gdN h
  obtain ⟨q12, hq12, h⟩ := bindN h
  refine zz_putrq C ddX_init_28 fl_X_23 (Or.inr ⟨hn, _, rfl, rfl⟩) rfl (fun _ => rfl) (fun _ => rfl) h10 (of_decide_eq_true h11) hq12 ?_
  refine zz_iconst (v := 0) C ddX_init_31 (by decide) ?_
  refine zz_istore_n (L1 := [(2, .int 0), (0, .ref v0), (1, .ref v1)]) C ddX_init_32 rfl N (by decide) rfl ?_
  refine zz_iload_n C 0 ddX_init_33 rfl rfl ?_
  refine zz_aload_n C 1 ddX_init_34 rfl rfl ?_
  obtain ⟨h13, h⟩ := gdN h
  obtain ⟨h14, h⟩ := gdN h
  refine zz_getr C ddX_init_35 fl_X_11 rfl h13 (of_decide_eq_true h14) ?_
  obtain ⟨h15, h⟩ := gdN h
  obtain ⟨h16, h⟩ := gdN h
  refine zz_alenV (v := 7) (t := 103) C ddX_init_38 (by decide) (fun _ => rfl) h15 (congrArg Int32.ofNat (of_decide_eq_true h16)) ?_
  refine zz_icmp_ge (tgt := 88) C ddX_init_39 rfl (fun hc => absurd hc (by decide)) (fun hc => ?_)
  refine zz_aload_n C 1 ddX_init_42 rfl rfl ?_
  refine zz_getr C ddX_init_43 fl_X_11 rfl h13 (of_decide_eq_true h14) ?_
  refine zz_iload_n C 0 ddX_init_46 rfl rfl ?_
  obtain ⟨q17, hq17, h⟩ := bindN h
  refine zz_new C ddX_init_47 (t := 1) rfl rfl ⟨wd_227, wd_119, wd_6⟩ hg hq17 ⟨by rw [hR]; exact Nat.le_of_ble_eq_true rfl, by rw [hR]; exact Nat.le_of_ble_eq_true rfl⟩ ?_
  refine zz_kn (k1 := 4) (n1 := 30) (by decide) (by decide) ?_
  refine zz_dup C ddX_init_50 rfl ?_
  refine zz_aload_n C 2 ddX_init_51 rfl rfl ?_
  obtain ⟨q18, hq18, h⟩ := bindN h
  refine zz_callI (As := [.ref v1]) C ddX_init_52 wd_230 my_H_init ⟨rfl, mi_H_init⟩ (xH_init hG hg (d - 1) (by omega) hq18) (by omega) rfl rfl (Nat.le_of_ble_eq_true rfl) ⟨by rw [hR]; exact Nat.le_of_ble_eq_true rfl, by rw [hR]; exact Nat.le_of_ble_eq_true rfl⟩ ?_
  refine zz_kn (k1 := 21) (n1 := 1740) (by decide) (by decide) ?_
  obtain ⟨h19, h⟩ := gdN h
  obtain ⟨h20, h⟩ := gdN h
  obtain ⟨q21, hq21, h⟩ := bindN h
  refine zz_aastoreq (t := 103) (tc := 1) C ddX_init_55 rfl (by decide) (fun _ => rfl) h19 h20 hq21 ?_
  refine zz_aload_n C 1 ddX_init_56 rfl rfl ?_
  obtain ⟨h22, h⟩ := gdN h
  obtain ⟨h23, h⟩ := gdN h
  refine zz_getr C ddX_init_57 fl_X_19 rfl h22 (of_decide_eq_true h23) ?_
  refine zz_iload_n C 0 ddX_init_60 rfl rfl ?_
  obtain ⟨q24, hq24, h⟩ := bindN h
  refine zz_new C ddX_init_61 (t := 5) rfl rfl ⟨wd_228, wd_231, wd_12⟩ hg hq24 ⟨by rw [hR]; exact Nat.le_of_ble_eq_true rfl, by rw [hR]; exact Nat.le_of_ble_eq_true rfl⟩ ?_
  refine zz_kn (k1 := 22) (n1 := 1745) (by decide) (by decide) ?_
  refine zz_dup C ddX_init_64 rfl ?_
  obtain ⟨q25, hq25, h⟩ := bindN h
  refine zz_callIN (As := []) C ddX_init_65 wd_232 my_G_init ⟨rfl, mi_G_init⟩ (xG_init hG hg (d - 1) (by omega) hq25) (by omega) rfl rfl (Nat.le_of_ble_eq_true rfl) ⟨by rw [hR]; exact Nat.le_of_ble_eq_true rfl, by rw [hR]; exact Nat.le_of_ble_eq_true rfl⟩ ?_
  refine zz_kn (k1 := 25) (n1 := 1817) (by decide) (by decide) ?_
  obtain ⟨h26, h⟩ := gdN h
  obtain ⟨h27, h⟩ := gdN h
  obtain ⟨q28, hq28, h⟩ := bindN h
  refine zz_aastoreq (t := 105) (tc := 5) C ddX_init_68 rfl (by decide) (fun _ => rfl) h26 h27 hq28 ?_
  refine zz_aload_n C 1 ddX_init_69 rfl rfl ?_
  obtain ⟨h29, h⟩ := gdN h
  obtain ⟨h30, h⟩ := gdN h
  refine zz_getr C ddX_init_70 fl_X_23 rfl h29 (of_decide_eq_true h30) ?_
  refine zz_iload_n C 0 ddX_init_73 rfl rfl ?_
  obtain ⟨q31, hq31, h⟩ := bindN h
  refine zz_new C ddX_init_74 (t := 5) rfl rfl ⟨wd_228, wd_231, wd_12⟩ hg hq31 ⟨by rw [hR]; exact Nat.le_of_ble_eq_true rfl, by rw [hR]; exact Nat.le_of_ble_eq_true rfl⟩ ?_
  refine zz_kn (k1 := 26) (n1 := 1822) (by decide) (by decide) ?_
  refine zz_dup C ddX_init_77 rfl ?_
  obtain ⟨q32, hq32, h⟩ := bindN h
  refine zz_callIN (As := []) C ddX_init_78 wd_232 my_G_init ⟨rfl, mi_G_init⟩ (xG_init hG hg (d - 1) (by omega) hq32) (by omega) rfl rfl (Nat.le_of_ble_eq_true rfl) ⟨by rw [hR]; exact Nat.le_of_ble_eq_true rfl, by rw [hR]; exact Nat.le_of_ble_eq_true rfl⟩ ?_
  refine zz_kn (k1 := 29) (n1 := 1894) (by decide) (by decide) ?_
  obtain ⟨h33, h⟩ := gdN h
  obtain ⟨h34, h⟩ := gdN h
  obtain ⟨q35, hq35, h⟩ := bindN h
  refine zz_aastoreq (t := 105) (tc := 5) C ddX_init_81 rfl (by decide) (fun _ => rfl) h33 h34 hq35 ?_
  refine zz_iinc (v := 1) (L1 := [(2, .int 1), (0, .ref v0), (1, .ref v1)]) C 0 ddX_init_82 rfl (by decide) N (by decide) rfl ?_
  refine zz_goto (tgt := 33) C ddX_init_85 rfl ?_
  refine zz_iload_n C 0 ddX_init_33 rfl rfl ?_
  refine zz_aload_n C 1 ddX_init_34 rfl rfl ?_
  obtain ⟨h36, h⟩ := gdN h
  obtain ⟨h37, h⟩ := gdN h
  refine zz_getr C ddX_init_35 fl_X_11 rfl h36 (of_decide_eq_true h37) ?_
  obtain ⟨h38, h⟩ := gdN h
  obtain ⟨h39, h⟩ := gdN h
  refine zz_alenV (v := 7) (t := 103) C ddX_init_38 (by decide) (fun _ => rfl) h38 (congrArg Int32.ofNat (of_decide_eq_true h39)) ?_
  refine zz_icmp_ge (tgt := 88) C ddX_init_39 rfl (fun hc => absurd hc (by decide)) (fun hc => ?_)
  refine zz_aload_n C 1 ddX_init_42 rfl rfl ?_
  refine zz_getr C ddX_init_43 fl_X_11 rfl h36 (of_decide_eq_true h37) ?_
  refine zz_iload_n C 0 ddX_init_46 rfl rfl ?_
  obtain ⟨q40, hq40, h⟩ := bindN h
  refine zz_new C ddX_init_47 (t := 1) rfl rfl ⟨wd_227, wd_119, wd_6⟩ hg hq40 ⟨by rw [hR]; exact Nat.le_of_ble_eq_true rfl, by rw [hR]; exact Nat.le_of_ble_eq_true rfl⟩ ?_
  refine zz_kn (k1 := 30) (n1 := 1903) (by decide) (by decide) ?_
  refine zz_dup C ddX_init_50 rfl ?_
  refine zz_aload_n C 2 ddX_init_51 rfl rfl ?_
  obtain ⟨q41, hq41, h⟩ := bindN h
  refine zz_callI (As := [.ref v1]) C ddX_init_52 wd_230 my_H_init ⟨rfl, mi_H_init⟩ (xH_init hG hg (d - 1) (by omega) hq41) (by omega) rfl rfl (Nat.le_of_ble_eq_true rfl) ⟨by rw [hR]; exact Nat.le_of_ble_eq_true rfl, by rw [hR]; exact Nat.le_of_ble_eq_true rfl⟩ ?_
  refine zz_kn (k1 := 47) (n1 := 3613) (by decide) (by decide) ?_
  obtain ⟨h42, h⟩ := gdN h
  obtain ⟨h43, h⟩ := gdN h
  obtain ⟨q44, hq44, h⟩ := bindN h
  refine zz_aastoreq (t := 103) (tc := 1) C ddX_init_55 rfl (by decide) (fun _ => rfl) h42 h43 hq44 ?_
  refine zz_aload_n C 1 ddX_init_56 rfl rfl ?_
  obtain ⟨h45, h⟩ := gdN h
  obtain ⟨h46, h⟩ := gdN h
  refine zz_getr C ddX_init_57 fl_X_19 rfl h45 (of_decide_eq_true h46) ?_
  refine zz_iload_n C 0 ddX_init_60 rfl rfl ?_
  obtain ⟨q47, hq47, h⟩ := bindN h
  refine zz_new C ddX_init_61 (t := 5) rfl rfl ⟨wd_228, wd_231, wd_12⟩ hg hq47 ⟨by rw [hR]; exact Nat.le_of_ble_eq_true rfl, by rw [hR]; exact Nat.le_of_ble_eq_true rfl⟩ ?_
  refine zz_kn (k1 := 48) (n1 := 3618) (by decide) (by decide) ?_
  refine zz_dup C ddX_init_64 rfl ?_
  obtain ⟨q48, hq48, h⟩ := bindN h
  refine zz_callIN (As := []) C ddX_init_65 wd_232 my_G_init ⟨rfl, mi_G_init⟩ (xG_init hG hg (d - 1) (by omega) hq48) (by omega) rfl rfl (Nat.le_of_ble_eq_true rfl) ⟨by rw [hR]; exact Nat.le_of_ble_eq_true rfl, by rw [hR]; exact Nat.le_of_ble_eq_true rfl⟩ ?_
  refine zz_kn (k1 := 51) (n1 := 3690) (by decide) (by decide) ?_
  obtain ⟨h49, h⟩ := gdN h
  obtain ⟨h50, h⟩ := gdN h
  obtain ⟨q51, hq51, h⟩ := bindN h
  refine zz_aastoreq (t := 105) (tc := 5) C ddX_init_68 rfl (by decide) (fun _ => rfl) h49 h50 hq51 ?_
  refine zz_aload_n C 1 ddX_init_69 rfl rfl ?_
  obtain ⟨h52, h⟩ := gdN h
  obtain ⟨h53, h⟩ := gdN h
  refine zz_getr C ddX_init_70 fl_X_23 rfl h52 (of_decide_eq_true h53) ?_
  refine zz_iload_n C 0 ddX_init_73 rfl rfl ?_
  obtain ⟨q54, hq54, h⟩ := bindN h
  refine zz_new C ddX_init_74 (t := 5) rfl rfl ⟨wd_228, wd_231, wd_12⟩ hg hq54 ⟨by rw [hR]; exact Nat.le_of_ble_eq_true rfl, by rw [hR]; exact Nat.le_of_ble_eq_true rfl⟩ ?_
  refine zz_kn (k1 := 52) (n1 := 3695) (by decide) (by decide) ?_
  refine zz_dup C ddX_init_77 rfl ?_
  obtain ⟨q55, hq55, h⟩ := bindN h
  refine zz_callIN (As := []) C ddX_init_78 wd_232 my_G_init ⟨rfl, mi_G_init⟩ (xG_init hG hg (d - 1) (by omega) hq55) (by omega) rfl rfl (Nat.le_of_ble_eq_true rfl) ⟨by rw [hR]; exact Nat.le_of_ble_eq_true rfl, by rw [hR]; exact Nat.le_of_ble_eq_true rfl⟩ ?_
  refine zz_kn (k1 := 55) (n1 := 3767) (by decide) (by decide) ?_
  obtain ⟨h56, h⟩ := gdN h
  obtain ⟨h57, h⟩ := gdN h
  obtain ⟨q58, hq58, h⟩ := bindN h
  refine zz_aastoreq (t := 105) (tc := 5) C ddX_init_81 rfl (by decide) (fun _ => rfl) h56 h57 hq58 ?_
  refine zz_iinc (v := 2) (L1 := [(2, .int 2), (0, .ref v0), (1, .ref v1)]) C 0 ddX_init_82 rfl (by decide) N (by decide) rfl ?_
  refine zz_goto (tgt := 33) C ddX_init_85 rfl ?_
  refine zz_iload_n C 0 ddX_init_33 rfl rfl ?_
  refine zz_aload_n C 1 ddX_init_34 rfl rfl ?_
  obtain ⟨h59, h⟩ := gdN h
  obtain ⟨h60, h⟩ := gdN h
  refine zz_getr C ddX_init_35 fl_X_11 rfl h59 (of_decide_eq_true h60) ?_
  obtain ⟨h61, h⟩ := gdN h
  obtain ⟨h62, h⟩ := gdN h
  refine zz_alenV (v := 7) (t := 103) C ddX_init_38 (by decide) (fun _ => rfl) h61 (congrArg Int32.ofNat (of_decide_eq_true h62)) ?_
  refine zz_icmp_ge (tgt := 88) C ddX_init_39 rfl (fun hc => absurd hc (by decide)) (fun hc => ?_)
  refine zz_aload_n C 1 ddX_init_42 rfl rfl ?_
  refine zz_getr C ddX_init_43 fl_X_11 rfl h59 (of_decide_eq_true h60) ?_
  refine zz_iload_n C 0 ddX_init_46 rfl rfl ?_
  obtain ⟨q63, hq63, h⟩ := bindN h
  refine zz_new C ddX_init_47 (t := 1) rfl rfl ⟨wd_227, wd_119, wd_6⟩ hg hq63 ⟨by rw [hR]; exact Nat.le_of_ble_eq_true rfl, by rw [hR]; exact Nat.le_of_ble_eq_true rfl⟩ ?_
  refine zz_kn (k1 := 56) (n1 := 3776) (by decide) (by decide) ?_
  refine zz_dup C ddX_init_50 rfl ?_
  refine zz_aload_n C 2 ddX_init_51 rfl rfl ?_
  obtain ⟨q64, hq64, h⟩ := bindN h
  refine zz_callI (As := [.ref v1]) C ddX_init_52 wd_230 my_H_init ⟨rfl, mi_H_init⟩ (xH_init hG hg (d - 1) (by omega) hq64) (by omega) rfl rfl (Nat.le_of_ble_eq_true rfl) ⟨by rw [hR]; exact Nat.le_of_ble_eq_true rfl, by rw [hR]; exact Nat.le_of_ble_eq_true rfl⟩ ?_
  refine zz_kn (k1 := 73) (n1 := 5486) (by decide) (by decide) ?_
  obtain ⟨h65, h⟩ := gdN h
  obtain ⟨h66, h⟩ := gdN h
  obtain ⟨q67, hq67, h⟩ := bindN h
  refine zz_aastoreq (t := 103) (tc := 1) C ddX_init_55 rfl (by decide) (fun _ => rfl) h65 h66 hq67 ?_
  refine zz_aload_n C 1 ddX_init_56 rfl rfl ?_
  obtain ⟨h68, h⟩ := gdN h
  obtain ⟨h69, h⟩ := gdN h
  refine zz_getr C ddX_init_57 fl_X_19 rfl h68 (of_decide_eq_true h69) ?_
  refine zz_iload_n C 0 ddX_init_60 rfl rfl ?_
  obtain ⟨q70, hq70, h⟩ := bindN h
  refine zz_new C ddX_init_61 (t := 5) rfl rfl ⟨wd_228, wd_231, wd_12⟩ hg hq70 ⟨by rw [hR]; exact Nat.le_of_ble_eq_true rfl, by rw [hR]; exact Nat.le_of_ble_eq_true rfl⟩ ?_
  refine zz_kn (k1 := 74) (n1 := 5491) (by decide) (by decide) ?_
  refine zz_dup C ddX_init_64 rfl ?_
  obtain ⟨q71, hq71, h⟩ := bindN h
  refine zz_callIN (As := []) C ddX_init_65 wd_232 my_G_init ⟨rfl, mi_G_init⟩ (xG_init hG hg (d - 1) (by omega) hq71) (by omega) rfl rfl (Nat.le_of_ble_eq_true rfl) ⟨by rw [hR]; exact Nat.le_of_ble_eq_true rfl, by rw [hR]; exact Nat.le_of_ble_eq_true rfl⟩ ?_
  refine zz_kn (k1 := 77) (n1 := 5563) (by decide) (by decide) ?_
  obtain ⟨h72, h⟩ := gdN h
  obtain ⟨h73, h⟩ := gdN h
  obtain ⟨q74, hq74, h⟩ := bindN h
  refine zz_aastoreq (t := 105) (tc := 5) C ddX_init_68 rfl (by decide) (fun _ => rfl) h72 h73 hq74 ?_
  refine zz_aload_n C 1 ddX_init_69 rfl rfl ?_
  obtain ⟨h75, h⟩ := gdN h
  obtain ⟨h76, h⟩ := gdN h
  refine zz_getr C ddX_init_70 fl_X_23 rfl h75 (of_decide_eq_true h76) ?_
  refine zz_iload_n C 0 ddX_init_73 rfl rfl ?_
  obtain ⟨q77, hq77, h⟩ := bindN h
  refine zz_new C ddX_init_74 (t := 5) rfl rfl ⟨wd_228, wd_231, wd_12⟩ hg hq77 ⟨by rw [hR]; exact Nat.le_of_ble_eq_true rfl, by rw [hR]; exact Nat.le_of_ble_eq_true rfl⟩ ?_
  refine zz_kn (k1 := 78) (n1 := 5568) (by decide) (by decide) ?_
  refine zz_dup C ddX_init_77 rfl ?_
  obtain ⟨q78, hq78, h⟩ := bindN h
  refine zz_callIN (As := []) C ddX_init_78 wd_232 my_G_init ⟨rfl, mi_G_init⟩ (xG_init hG hg (d - 1) (by omega) hq78) (by omega) rfl rfl (Nat.le_of_ble_eq_true rfl) ⟨by rw [hR]; exact Nat.le_of_ble_eq_true rfl, by rw [hR]; exact Nat.le_of_ble_eq_true rfl⟩ ?_
  refine zz_kn (k1 := 81) (n1 := 5640) (by decide) (by decide) ?_
  obtain ⟨h79, h⟩ := gdN h
  obtain ⟨h80, h⟩ := gdN h
  obtain ⟨q81, hq81, h⟩ := bindN h
  refine zz_aastoreq (t := 105) (tc := 5) C ddX_init_81 rfl (by decide) (fun _ => rfl) h79 h80 hq81 ?_
  refine zz_iinc (v := 3) (L1 := [(2, .int 3), (0, .ref v0), (1, .ref v1)]) C 0 ddX_init_82 rfl (by decide) N (by decide) rfl ?_
  refine zz_goto (tgt := 33) C ddX_init_85 rfl ?_
  refine zz_iload_n C 0 ddX_init_33 rfl rfl ?_
  refine zz_aload_n C 1 ddX_init_34 rfl rfl ?_
  obtain ⟨h82, h⟩ := gdN h
  obtain ⟨h83, h⟩ := gdN h
  refine zz_getr C ddX_init_35 fl_X_11 rfl h82 (of_decide_eq_true h83) ?_
  obtain ⟨h84, h⟩ := gdN h
  obtain ⟨h85, h⟩ := gdN h
  refine zz_alenV (v := 7) (t := 103) C ddX_init_38 (by decide) (fun _ => rfl) h84 (congrArg Int32.ofNat (of_decide_eq_true h85)) ?_
  refine zz_icmp_ge (tgt := 88) C ddX_init_39 rfl (fun hc => absurd hc (by decide)) (fun hc => ?_)
  refine zz_aload_n C 1 ddX_init_42 rfl rfl ?_
  refine zz_getr C ddX_init_43 fl_X_11 rfl h82 (of_decide_eq_true h83) ?_
  refine zz_iload_n C 0 ddX_init_46 rfl rfl ?_
  obtain ⟨q86, hq86, h⟩ := bindN h
  refine zz_new C ddX_init_47 (t := 1) rfl rfl ⟨wd_227, wd_119, wd_6⟩ hg hq86 ⟨by rw [hR]; exact Nat.le_of_ble_eq_true rfl, by rw [hR]; exact Nat.le_of_ble_eq_true rfl⟩ ?_
  refine zz_kn (k1 := 82) (n1 := 5649) (by decide) (by decide) ?_
  refine zz_dup C ddX_init_50 rfl ?_
  refine zz_aload_n C 2 ddX_init_51 rfl rfl ?_
  obtain ⟨q87, hq87, h⟩ := bindN h
  refine zz_callI (As := [.ref v1]) C ddX_init_52 wd_230 my_H_init ⟨rfl, mi_H_init⟩ (xH_init hG hg (d - 1) (by omega) hq87) (by omega) rfl rfl (Nat.le_of_ble_eq_true rfl) ⟨by rw [hR]; exact Nat.le_of_ble_eq_true rfl, by rw [hR]; exact Nat.le_of_ble_eq_true rfl⟩ ?_
  refine zz_kn (k1 := 99) (n1 := 7359) (by decide) (by decide) ?_
  obtain ⟨h88, h⟩ := gdN h
  obtain ⟨h89, h⟩ := gdN h
  obtain ⟨q90, hq90, h⟩ := bindN h
  refine zz_aastoreq (t := 103) (tc := 1) C ddX_init_55 rfl (by decide) (fun _ => rfl) h88 h89 hq90 ?_
  refine zz_aload_n C 1 ddX_init_56 rfl rfl ?_
  obtain ⟨h91, h⟩ := gdN h
  obtain ⟨h92, h⟩ := gdN h
  refine zz_getr C ddX_init_57 fl_X_19 rfl h91 (of_decide_eq_true h92) ?_
  refine zz_iload_n C 0 ddX_init_60 rfl rfl ?_
  obtain ⟨q93, hq93, h⟩ := bindN h
  refine zz_new C ddX_init_61 (t := 5) rfl rfl ⟨wd_228, wd_231, wd_12⟩ hg hq93 ⟨by rw [hR]; exact Nat.le_of_ble_eq_true rfl, by rw [hR]; exact Nat.le_of_ble_eq_true rfl⟩ ?_
  refine zz_kn (k1 := 100) (n1 := 7364) (by decide) (by decide) ?_
  refine zz_dup C ddX_init_64 rfl ?_
  obtain ⟨q94, hq94, h⟩ := bindN h
  refine zz_callIN (As := []) C ddX_init_65 wd_232 my_G_init ⟨rfl, mi_G_init⟩ (xG_init hG hg (d - 1) (by omega) hq94) (by omega) rfl rfl (Nat.le_of_ble_eq_true rfl) ⟨by rw [hR]; exact Nat.le_of_ble_eq_true rfl, by rw [hR]; exact Nat.le_of_ble_eq_true rfl⟩ ?_
  refine zz_kn (k1 := 103) (n1 := 7436) (by decide) (by decide) ?_
  obtain ⟨h95, h⟩ := gdN h
  obtain ⟨h96, h⟩ := gdN h
  obtain ⟨q97, hq97, h⟩ := bindN h
  refine zz_aastoreq (t := 105) (tc := 5) C ddX_init_68 rfl (by decide) (fun _ => rfl) h95 h96 hq97 ?_
  refine zz_aload_n C 1 ddX_init_69 rfl rfl ?_
  obtain ⟨h98, h⟩ := gdN h
  obtain ⟨h99, h⟩ := gdN h
  refine zz_getr C ddX_init_70 fl_X_23 rfl h98 (of_decide_eq_true h99) ?_
  refine zz_iload_n C 0 ddX_init_73 rfl rfl ?_
  obtain ⟨q100, hq100, h⟩ := bindN h
  refine zz_new C ddX_init_74 (t := 5) rfl rfl ⟨wd_228, wd_231, wd_12⟩ hg hq100 ⟨by rw [hR]; exact Nat.le_of_ble_eq_true rfl, by rw [hR]; exact Nat.le_of_ble_eq_true rfl⟩ ?_
  refine zz_kn (k1 := 104) (n1 := 7441) (by decide) (by decide) ?_
  refine zz_dup C ddX_init_77 rfl ?_
  obtain ⟨q101, hq101, h⟩ := bindN h
  refine zz_callIN (As := []) C ddX_init_78 wd_232 my_G_init ⟨rfl, mi_G_init⟩ (xG_init hG hg (d - 1) (by omega) hq101) (by omega) rfl rfl (Nat.le_of_ble_eq_true rfl) ⟨by rw [hR]; exact Nat.le_of_ble_eq_true rfl, by rw [hR]; exact Nat.le_of_ble_eq_true rfl⟩ ?_
  refine zz_kn (k1 := 107) (n1 := 7513) (by decide) (by decide) ?_
  obtain ⟨h102, h⟩ := gdN h
  obtain ⟨h103, h⟩ := gdN h
  obtain ⟨q104, hq104, h⟩ := bindN h
  refine zz_aastoreq (t := 105) (tc := 5) C ddX_init_81 rfl (by decide) (fun _ => rfl) h102 h103 hq104 ?_
  refine zz_iinc (v := 4) (L1 := [(2, .int 4), (0, .ref v0), (1, .ref v1)]) C 0 ddX_init_82 rfl (by decide) N (by decide) rfl ?_
  refine zz_goto (tgt := 33) C ddX_init_85 rfl ?_
  refine zz_iload_n C 0 ddX_init_33 rfl rfl ?_
  refine zz_aload_n C 1 ddX_init_34 rfl rfl ?_
  obtain ⟨h105, h⟩ := gdN h
  obtain ⟨h106, h⟩ := gdN h
  refine zz_getr C ddX_init_35 fl_X_11 rfl h105 (of_decide_eq_true h106) ?_
  obtain ⟨h107, h⟩ := gdN h
  obtain ⟨h108, h⟩ := gdN h
  refine zz_alenV (v := 7) (t := 103) C ddX_init_38 (by decide) (fun _ => rfl) h107 (congrArg Int32.ofNat (of_decide_eq_true h108)) ?_
  refine zz_icmp_ge (tgt := 88) C ddX_init_39 rfl (fun hc => absurd hc (by decide)) (fun hc => ?_)
  refine zz_aload_n C 1 ddX_init_42 rfl rfl ?_
  refine zz_getr C ddX_init_43 fl_X_11 rfl h105 (of_decide_eq_true h106) ?_
  refine zz_iload_n C 0 ddX_init_46 rfl rfl ?_
  obtain ⟨q109, hq109, h⟩ := bindN h
  refine zz_new C ddX_init_47 (t := 1) rfl rfl ⟨wd_227, wd_119, wd_6⟩ hg hq109 ⟨by rw [hR]; exact Nat.le_of_ble_eq_true rfl, by rw [hR]; exact Nat.le_of_ble_eq_true rfl⟩ ?_
  refine zz_kn (k1 := 108) (n1 := 7522) (by decide) (by decide) ?_
  refine zz_dup C ddX_init_50 rfl ?_
  refine zz_aload_n C 2 ddX_init_51 rfl rfl ?_
  obtain ⟨q110, hq110, h⟩ := bindN h
  refine zz_callI (As := [.ref v1]) C ddX_init_52 wd_230 my_H_init ⟨rfl, mi_H_init⟩ (xH_init hG hg (d - 1) (by omega) hq110) (by omega) rfl rfl (Nat.le_of_ble_eq_true rfl) ⟨by rw [hR]; exact Nat.le_of_ble_eq_true rfl, by rw [hR]; exact Nat.le_of_ble_eq_true rfl⟩ ?_
  refine zz_kn (k1 := 125) (n1 := 9232) (by decide) (by decide) ?_
  obtain ⟨h111, h⟩ := gdN h
  obtain ⟨h112, h⟩ := gdN h
  obtain ⟨q113, hq113, h⟩ := bindN h
  refine zz_aastoreq (t := 103) (tc := 1) C ddX_init_55 rfl (by decide) (fun _ => rfl) h111 h112 hq113 ?_
  refine zz_aload_n C 1 ddX_init_56 rfl rfl ?_
  obtain ⟨h114, h⟩ := gdN h
  obtain ⟨h115, h⟩ := gdN h
  refine zz_getr C ddX_init_57 fl_X_19 rfl h114 (of_decide_eq_true h115) ?_
  refine zz_iload_n C 0 ddX_init_60 rfl rfl ?_
  obtain ⟨q116, hq116, h⟩ := bindN h
  refine zz_new C ddX_init_61 (t := 5) rfl rfl ⟨wd_228, wd_231, wd_12⟩ hg hq116 ⟨by rw [hR]; exact Nat.le_of_ble_eq_true rfl, by rw [hR]; exact Nat.le_of_ble_eq_true rfl⟩ ?_
  refine zz_kn (k1 := 126) (n1 := 9237) (by decide) (by decide) ?_
  refine zz_dup C ddX_init_64 rfl ?_
  obtain ⟨q117, hq117, h⟩ := bindN h
  refine zz_callIN (As := []) C ddX_init_65 wd_232 my_G_init ⟨rfl, mi_G_init⟩ (xG_init hG hg (d - 1) (by omega) hq117) (by omega) rfl rfl (Nat.le_of_ble_eq_true rfl) ⟨by rw [hR]; exact Nat.le_of_ble_eq_true rfl, by rw [hR]; exact Nat.le_of_ble_eq_true rfl⟩ ?_
  refine zz_kn (k1 := 129) (n1 := 9309) (by decide) (by decide) ?_
  obtain ⟨h118, h⟩ := gdN h
  obtain ⟨h119, h⟩ := gdN h
  obtain ⟨q120, hq120, h⟩ := bindN h
  refine zz_aastoreq (t := 105) (tc := 5) C ddX_init_68 rfl (by decide) (fun _ => rfl) h118 h119 hq120 ?_
  refine zz_aload_n C 1 ddX_init_69 rfl rfl ?_
  obtain ⟨h121, h⟩ := gdN h
  obtain ⟨h122, h⟩ := gdN h
  refine zz_getr C ddX_init_70 fl_X_23 rfl h121 (of_decide_eq_true h122) ?_
  refine zz_iload_n C 0 ddX_init_73 rfl rfl ?_
  obtain ⟨q123, hq123, h⟩ := bindN h
  refine zz_new C ddX_init_74 (t := 5) rfl rfl ⟨wd_228, wd_231, wd_12⟩ hg hq123 ⟨by rw [hR]; exact Nat.le_of_ble_eq_true rfl, by rw [hR]; exact Nat.le_of_ble_eq_true rfl⟩ ?_
  refine zz_kn (k1 := 130) (n1 := 9314) (by decide) (by decide) ?_
  refine zz_dup C ddX_init_77 rfl ?_
  obtain ⟨q124, hq124, h⟩ := bindN h
  refine zz_callIN (As := []) C ddX_init_78 wd_232 my_G_init ⟨rfl, mi_G_init⟩ (xG_init hG hg (d - 1) (by omega) hq124) (by omega) rfl rfl (Nat.le_of_ble_eq_true rfl) ⟨by rw [hR]; exact Nat.le_of_ble_eq_true rfl, by rw [hR]; exact Nat.le_of_ble_eq_true rfl⟩ ?_
  refine zz_kn (k1 := 133) (n1 := 9386) (by decide) (by decide) ?_
  obtain ⟨h125, h⟩ := gdN h
  obtain ⟨h126, h⟩ := gdN h
  obtain ⟨q127, hq127, h⟩ := bindN h
  refine zz_aastoreq (t := 105) (tc := 5) C ddX_init_81 rfl (by decide) (fun _ => rfl) h125 h126 hq127 ?_
  refine zz_iinc (v := 5) (L1 := [(2, .int 5), (0, .ref v0), (1, .ref v1)]) C 0 ddX_init_82 rfl (by decide) N (by decide) rfl ?_
  refine zz_goto (tgt := 33) C ddX_init_85 rfl ?_
  refine zz_iload_n C 0 ddX_init_33 rfl rfl ?_
  refine zz_aload_n C 1 ddX_init_34 rfl rfl ?_
  obtain ⟨h128, h⟩ := gdN h
  obtain ⟨h129, h⟩ := gdN h
  refine zz_getr C ddX_init_35 fl_X_11 rfl h128 (of_decide_eq_true h129) ?_
  obtain ⟨h130, h⟩ := gdN h
  obtain ⟨h131, h⟩ := gdN h
  refine zz_alenV (v := 7) (t := 103) C ddX_init_38 (by decide) (fun _ => rfl) h130 (congrArg Int32.ofNat (of_decide_eq_true h131)) ?_
  refine zz_icmp_ge (tgt := 88) C ddX_init_39 rfl (fun hc => absurd hc (by decide)) (fun hc => ?_)
  refine zz_aload_n C 1 ddX_init_42 rfl rfl ?_
  refine zz_getr C ddX_init_43 fl_X_11 rfl h128 (of_decide_eq_true h129) ?_
  refine zz_iload_n C 0 ddX_init_46 rfl rfl ?_
  obtain ⟨q132, hq132, h⟩ := bindN h
  refine zz_new C ddX_init_47 (t := 1) rfl rfl ⟨wd_227, wd_119, wd_6⟩ hg hq132 ⟨by rw [hR]; exact Nat.le_of_ble_eq_true rfl, by rw [hR]; exact Nat.le_of_ble_eq_true rfl⟩ ?_
  refine zz_kn (k1 := 134) (n1 := 9395) (by decide) (by decide) ?_
  refine zz_dup C ddX_init_50 rfl ?_
  refine zz_aload_n C 2 ddX_init_51 rfl rfl ?_
  obtain ⟨q133, hq133, h⟩ := bindN h
  refine zz_callI (As := [.ref v1]) C ddX_init_52 wd_230 my_H_init ⟨rfl, mi_H_init⟩ (xH_init hG hg (d - 1) (by omega) hq133) (by omega) rfl rfl (Nat.le_of_ble_eq_true rfl) ⟨by rw [hR]; exact Nat.le_of_ble_eq_true rfl, by rw [hR]; exact Nat.le_of_ble_eq_true rfl⟩ ?_
  refine zz_kn (k1 := 151) (n1 := 11105) (by decide) (by decide) ?_
  obtain ⟨h134, h⟩ := gdN h
  obtain ⟨h135, h⟩ := gdN h
  obtain ⟨q136, hq136, h⟩ := bindN h
  refine zz_aastoreq (t := 103) (tc := 1) C ddX_init_55 rfl (by decide) (fun _ => rfl) h134 h135 hq136 ?_
  refine zz_aload_n C 1 ddX_init_56 rfl rfl ?_
  obtain ⟨h137, h⟩ := gdN h
  obtain ⟨h138, h⟩ := gdN h
  refine zz_getr C ddX_init_57 fl_X_19 rfl h137 (of_decide_eq_true h138) ?_
  refine zz_iload_n C 0 ddX_init_60 rfl rfl ?_
  obtain ⟨q139, hq139, h⟩ := bindN h
  refine zz_new C ddX_init_61 (t := 5) rfl rfl ⟨wd_228, wd_231, wd_12⟩ hg hq139 ⟨by rw [hR]; exact Nat.le_of_ble_eq_true rfl, by rw [hR]; exact Nat.le_of_ble_eq_true rfl⟩ ?_
  refine zz_kn (k1 := 152) (n1 := 11110) (by decide) (by decide) ?_
  refine zz_dup C ddX_init_64 rfl ?_
  obtain ⟨q140, hq140, h⟩ := bindN h
  refine zz_callIN (As := []) C ddX_init_65 wd_232 my_G_init ⟨rfl, mi_G_init⟩ (xG_init hG hg (d - 1) (by omega) hq140) (by omega) rfl rfl (Nat.le_of_ble_eq_true rfl) ⟨by rw [hR]; exact Nat.le_of_ble_eq_true rfl, by rw [hR]; exact Nat.le_of_ble_eq_true rfl⟩ ?_
  refine zz_kn (k1 := 155) (n1 := 11182) (by decide) (by decide) ?_
  obtain ⟨h141, h⟩ := gdN h
  obtain ⟨h142, h⟩ := gdN h
  obtain ⟨q143, hq143, h⟩ := bindN h
  refine zz_aastoreq (t := 105) (tc := 5) C ddX_init_68 rfl (by decide) (fun _ => rfl) h141 h142 hq143 ?_
  refine zz_aload_n C 1 ddX_init_69 rfl rfl ?_
  obtain ⟨h144, h⟩ := gdN h
  obtain ⟨h145, h⟩ := gdN h
  refine zz_getr C ddX_init_70 fl_X_23 rfl h144 (of_decide_eq_true h145) ?_
  refine zz_iload_n C 0 ddX_init_73 rfl rfl ?_
  obtain ⟨q146, hq146, h⟩ := bindN h
  refine zz_new C ddX_init_74 (t := 5) rfl rfl ⟨wd_228, wd_231, wd_12⟩ hg hq146 ⟨by rw [hR]; exact Nat.le_of_ble_eq_true rfl, by rw [hR]; exact Nat.le_of_ble_eq_true rfl⟩ ?_
  refine zz_kn (k1 := 156) (n1 := 11187) (by decide) (by decide) ?_
  refine zz_dup C ddX_init_77 rfl ?_
  obtain ⟨q147, hq147, h⟩ := bindN h
  refine zz_callIN (As := []) C ddX_init_78 wd_232 my_G_init ⟨rfl, mi_G_init⟩ (xG_init hG hg (d - 1) (by omega) hq147) (by omega) rfl rfl (Nat.le_of_ble_eq_true rfl) ⟨by rw [hR]; exact Nat.le_of_ble_eq_true rfl, by rw [hR]; exact Nat.le_of_ble_eq_true rfl⟩ ?_
  refine zz_kn (k1 := 159) (n1 := 11259) (by decide) (by decide) ?_
  obtain ⟨h148, h⟩ := gdN h
  obtain ⟨h149, h⟩ := gdN h
  obtain ⟨q150, hq150, h⟩ := bindN h
  refine zz_aastoreq (t := 105) (tc := 5) C ddX_init_81 rfl (by decide) (fun _ => rfl) h148 h149 hq150 ?_
  refine zz_iinc (v := 6) (L1 := [(2, .int 6), (0, .ref v0), (1, .ref v1)]) C 0 ddX_init_82 rfl (by decide) N (by decide) rfl ?_
  refine zz_goto (tgt := 33) C ddX_init_85 rfl ?_
  refine zz_iload_n C 0 ddX_init_33 rfl rfl ?_
  refine zz_aload_n C 1 ddX_init_34 rfl rfl ?_
  obtain ⟨h151, h⟩ := gdN h
  obtain ⟨h152, h⟩ := gdN h
  refine zz_getr C ddX_init_35 fl_X_11 rfl h151 (of_decide_eq_true h152) ?_
  obtain ⟨h153, h⟩ := gdN h
  obtain ⟨h154, h⟩ := gdN h
  refine zz_alenV (v := 7) (t := 103) C ddX_init_38 (by decide) (fun _ => rfl) h153 (congrArg Int32.ofNat (of_decide_eq_true h154)) ?_
  refine zz_icmp_ge (tgt := 88) C ddX_init_39 rfl (fun hc => absurd hc (by decide)) (fun hc => ?_)
  refine zz_aload_n C 1 ddX_init_42 rfl rfl ?_
  refine zz_getr C ddX_init_43 fl_X_11 rfl h151 (of_decide_eq_true h152) ?_
  refine zz_iload_n C 0 ddX_init_46 rfl rfl ?_
  obtain ⟨q155, hq155, h⟩ := bindN h
  refine zz_new C ddX_init_47 (t := 1) rfl rfl ⟨wd_227, wd_119, wd_6⟩ hg hq155 ⟨by rw [hR]; exact Nat.le_of_ble_eq_true rfl, by rw [hR]; exact Nat.le_of_ble_eq_true rfl⟩ ?_
  refine zz_kn (k1 := 160) (n1 := 11268) (by decide) (by decide) ?_
  refine zz_dup C ddX_init_50 rfl ?_
  refine zz_aload_n C 2 ddX_init_51 rfl rfl ?_
  obtain ⟨q156, hq156, h⟩ := bindN h
  refine zz_callI (As := [.ref v1]) C ddX_init_52 wd_230 my_H_init ⟨rfl, mi_H_init⟩ (xH_init hG hg (d - 1) (by omega) hq156) (by omega) rfl rfl (Nat.le_of_ble_eq_true rfl) ⟨by rw [hR]; exact Nat.le_of_ble_eq_true rfl, by rw [hR]; exact Nat.le_of_ble_eq_true rfl⟩ ?_
  refine zz_kn (k1 := 177) (n1 := 12978) (by decide) (by decide) ?_
  obtain ⟨h157, h⟩ := gdN h
  obtain ⟨h158, h⟩ := gdN h
  obtain ⟨q159, hq159, h⟩ := bindN h
  refine zz_aastoreq (t := 103) (tc := 1) C ddX_init_55 rfl (by decide) (fun _ => rfl) h157 h158 hq159 ?_
  refine zz_aload_n C 1 ddX_init_56 rfl rfl ?_
  obtain ⟨h160, h⟩ := gdN h
  obtain ⟨h161, h⟩ := gdN h
  refine zz_getr C ddX_init_57 fl_X_19 rfl h160 (of_decide_eq_true h161) ?_
  refine zz_iload_n C 0 ddX_init_60 rfl rfl ?_
  obtain ⟨q162, hq162, h⟩ := bindN h
  refine zz_new C ddX_init_61 (t := 5) rfl rfl ⟨wd_228, wd_231, wd_12⟩ hg hq162 ⟨by rw [hR]; exact Nat.le_of_ble_eq_true rfl, by rw [hR]; exact Nat.le_of_ble_eq_true rfl⟩ ?_
  refine zz_kn (k1 := 178) (n1 := 12983) (by decide) (by decide) ?_
  refine zz_dup C ddX_init_64 rfl ?_
  obtain ⟨q163, hq163, h⟩ := bindN h
  refine zz_callIN (As := []) C ddX_init_65 wd_232 my_G_init ⟨rfl, mi_G_init⟩ (xG_init hG hg (d - 1) (by omega) hq163) (by omega) rfl rfl (Nat.le_of_ble_eq_true rfl) ⟨by rw [hR]; exact Nat.le_of_ble_eq_true rfl, by rw [hR]; exact Nat.le_of_ble_eq_true rfl⟩ ?_
  refine zz_kn (k1 := 181) (n1 := 13055) (by decide) (by decide) ?_
  obtain ⟨h164, h⟩ := gdN h
  obtain ⟨h165, h⟩ := gdN h
  obtain ⟨q166, hq166, h⟩ := bindN h
  refine zz_aastoreq (t := 105) (tc := 5) C ddX_init_68 rfl (by decide) (fun _ => rfl) h164 h165 hq166 ?_
  refine zz_aload_n C 1 ddX_init_69 rfl rfl ?_
  obtain ⟨h167, h⟩ := gdN h
  obtain ⟨h168, h⟩ := gdN h
  refine zz_getr C ddX_init_70 fl_X_23 rfl h167 (of_decide_eq_true h168) ?_
  refine zz_iload_n C 0 ddX_init_73 rfl rfl ?_
  obtain ⟨q169, hq169, h⟩ := bindN h
  refine zz_new C ddX_init_74 (t := 5) rfl rfl ⟨wd_228, wd_231, wd_12⟩ hg hq169 ⟨by rw [hR]; exact Nat.le_of_ble_eq_true rfl, by rw [hR]; exact Nat.le_of_ble_eq_true rfl⟩ ?_
  refine zz_kn (k1 := 182) (n1 := 13060) (by decide) (by decide) ?_
  refine zz_dup C ddX_init_77 rfl ?_
  obtain ⟨q170, hq170, h⟩ := bindN h
  refine zz_callIN (As := []) C ddX_init_78 wd_232 my_G_init ⟨rfl, mi_G_init⟩ (xG_init hG hg (d - 1) (by omega) hq170) (by omega) rfl rfl (Nat.le_of_ble_eq_true rfl) ⟨by rw [hR]; exact Nat.le_of_ble_eq_true rfl, by rw [hR]; exact Nat.le_of_ble_eq_true rfl⟩ ?_
  refine zz_kn (k1 := 185) (n1 := 13132) (by decide) (by decide) ?_
  obtain ⟨h171, h⟩ := gdN h
  obtain ⟨h172, h⟩ := gdN h
  obtain ⟨q173, hq173, h⟩ := bindN h
  refine zz_aastoreq (t := 105) (tc := 5) C ddX_init_81 rfl (by decide) (fun _ => rfl) h171 h172 hq173 ?_
  refine zz_iinc (v := 7) (L1 := [(2, .int 7), (0, .ref v0), (1, .ref v1)]) C 0 ddX_init_82 rfl (by decide) N (by decide) rfl ?_
  refine zz_goto (tgt := 33) C ddX_init_85 rfl ?_
  refine zz_iload_n C 0 ddX_init_33 rfl rfl ?_
  refine zz_aload_n C 1 ddX_init_34 rfl rfl ?_
  obtain ⟨h174, h⟩ := gdN h
  obtain ⟨h175, h⟩ := gdN h
  refine zz_getr C ddX_init_35 fl_X_11 rfl h174 (of_decide_eq_true h175) ?_
  obtain ⟨h176, h⟩ := gdN h
  obtain ⟨h177, h⟩ := gdN h
  refine zz_alenV (v := 7) (t := 103) C ddX_init_38 (by decide) (fun _ => rfl) h176 (congrArg Int32.ofNat (of_decide_eq_true h177)) ?_
  refine zz_icmp_ge (tgt := 88) C ddX_init_39 rfl (fun hc => ?_) (fun hc => absurd hc (by decide))
  refine zz_aload_n C 1 ddX_init_88 rfl rfl ?_
  obtain ⟨q178, hq178, h⟩ := bindN h
  refine zz_new C ddX_init_89 (t := 8) rfl rfl ⟨wd_252, wd_91, wd_5⟩ hg hq178 ⟨by rw [hR]; exact Nat.le_of_ble_eq_true rfl, by rw [hR]; exact Nat.le_of_ble_eq_true rfl⟩ ?_
  refine zz_kn (k1 := 186) (n1 := 13136) (by decide) (by decide) ?_
  refine zz_dup C ddX_init_92 rfl ?_
  obtain ⟨q179, hq179, h⟩ := bindN h
  refine zz_callIN (As := []) C ddX_init_93 wd_253 my_S_init ⟨rfl, mi_S_init⟩ (xS_init hG hg (d - 1) (by omega) hq179) (by omega) rfl rfl (Nat.le_of_ble_eq_true rfl) ⟨by rw [hR]; exact Nat.le_of_ble_eq_true rfl, by rw [hR]; exact Nat.le_of_ble_eq_true rfl⟩ ?_
  refine zz_kn (k1 := 189) (n1 := 13208) (by decide) (by decide) ?_
  obtain ⟨h180, h⟩ := gdN h
  obtain ⟨h181, h⟩ := gdN h
  obtain ⟨q182, hq182, h⟩ := bindN h
  refine zz_putrq C ddX_init_96 fl_X_33 (Or.inl rfl) rfl (fun _ => rfl) (fun _ => rfl) h180 (of_decide_eq_true h181) hq182 ?_
  refine zz_aload_n C 1 ddX_init_99 rfl rfl ?_
  refine zz_aload_n C 1 ddX_init_100 rfl rfl ?_
  obtain ⟨h183, h⟩ := gdN h
  obtain ⟨h184, h⟩ := gdN h
  refine zz_getr C ddX_init_101 fl_X_33 rfl h183 (of_decide_eq_true h184) ?_
  obtain ⟨q185, hq185, h⟩ := bindN h
  refine zz_putrq C ddX_init_104 fl_X_37 (Or.inl rfl) rfl (fun _ => rfl) (fun _ => rfl) h183 (of_decide_eq_true h184) hq185 ?_
  obtain rfl := Option.some.inj h
  exact zz_vret C E ddX_init_107
theorem ddA_init_0 : decode cA_init 0 = .ok (.aload_n 0, 1) := by decide +kernel
theorem ddA_init_1 : decode cA_init 1 = .ok (.invokespecial 3, 3) := by decide +kernel
theorem ddA_init_4 : decode cA_init 4 = .ok (.aload_n 0, 1) := by decide +kernel
theorem ddA_init_5 : decode cA_init 5 = .ok (.new 9, 3) := by decide +kernel
theorem ddA_init_8 : decode cA_init 8 = .ok (.dup, 1) := by decide +kernel
theorem ddA_init_9 : decode cA_init 9 = .ok (.invokespecial 11, 3) := by decide +kernel
theorem ddA_init_12 : decode cA_init 12 = .ok (.putfield 12, 3) := by decide +kernel
theorem ddA_init_15 : decode cA_init 15 = .ok (.aload_n 0, 1) := by decide +kernel
theorem ddA_init_16 : decode cA_init 16 = .ok (.new 16, 3) := by decide +kernel
theorem ddA_init_19 : decode cA_init 19 = .ok (.dup, 1) := by decide +kernel
theorem ddA_init_20 : decode cA_init 20 = .ok (.aload_n 0, 1) := by decide +kernel
theorem ddA_init_21 : decode cA_init 21 = .ok (.getfield 12, 3) := by decide +kernel
theorem ddA_init_24 : decode cA_init 24 = .ok (.invokespecial 18, 3) := by decide +kernel
theorem ddA_init_27 : decode cA_init 27 = .ok (.putfield 21, 3) := by decide +kernel
theorem ddA_init_30 : decode cA_init 30 = .ok (.aload_n 0, 1) := by decide +kernel
theorem ddA_init_31 : decode cA_init 31 = .ok (.new 25, 3) := by decide +kernel
theorem ddA_init_34 : decode cA_init 34 = .ok (.dup, 1) := by decide +kernel
theorem ddA_init_35 : decode cA_init 35 = .ok (.invokespecial 27, 3) := by decide +kernel
theorem ddA_init_38 : decode cA_init 38 = .ok (.putfield 28, 3) := by decide +kernel
theorem ddA_init_41 : decode cA_init 41 = .ok (.aload_n 0, 1) := by decide +kernel
theorem ddA_init_42 : decode cA_init 42 = .ok (.new 25, 3) := by decide +kernel
theorem ddA_init_45 : decode cA_init 45 = .ok (.dup, 1) := by decide +kernel
theorem ddA_init_46 : decode cA_init 46 = .ok (.invokespecial 27, 3) := by decide +kernel
theorem ddA_init_49 : decode cA_init 49 = .ok (.putfield 32, 3) := by decide +kernel
theorem ddA_init_52 : decode cA_init 52 = .ok (.aload_n 0, 1) := by decide +kernel
theorem ddA_init_53 : decode cA_init 53 = .ok (.iconst 4, 1) := by decide +kernel
theorem ddA_init_54 : decode cA_init 54 = .ok (.anewarray 35, 3) := by decide +kernel
theorem ddA_init_57 : decode cA_init 57 = .ok (.putfield 37, 3) := by decide +kernel
theorem ddA_init_60 : decode cA_init 60 = .ok (.iconst 0, 1) := by decide +kernel
theorem ddA_init_61 : decode cA_init 61 = .ok (.istore_n 1, 1) := by decide +kernel
theorem ddA_init_62 : decode cA_init 62 = .ok (.iload_n 1, 1) := by decide +kernel
theorem ddA_init_63 : decode cA_init 63 = .ok (.iconst 4, 1) := by decide +kernel
theorem ddA_init_64 : decode cA_init 64 = .ok (.if_icmp .ge 22, 3) := by decide +kernel
theorem ddA_init_67 : decode cA_init 67 = .ok (.aload_n 0, 1) := by decide +kernel
theorem ddA_init_68 : decode cA_init 68 = .ok (.getfield 37, 3) := by decide +kernel
theorem ddA_init_71 : decode cA_init 71 = .ok (.iload_n 1, 1) := by decide +kernel
theorem ddA_init_72 : decode cA_init 72 = .ok (.new 35, 3) := by decide +kernel
theorem ddA_init_75 : decode cA_init 75 = .ok (.dup, 1) := by decide +kernel
theorem ddA_init_76 : decode cA_init 76 = .ok (.invokespecial 41, 3) := by decide +kernel
theorem ddA_init_79 : decode cA_init 79 = .ok (.aastore, 1) := by decide +kernel
theorem ddA_init_80 : decode cA_init 80 = .ok (.iinc 1 1, 3) := by decide +kernel
theorem ddA_init_83 : decode cA_init 83 = .ok (.goto (-21), 3) := by decide +kernel
theorem ddA_init_86 : decode cA_init 86 = .ok (.aload_n 0, 1) := by decide +kernel
theorem ddA_init_87 : decode cA_init 87 = .ok (.iconst 0, 1) := by decide +kernel
theorem ddA_init_88 : decode cA_init 88 = .ok (.putfield 42, 3) := by decide +kernel
theorem ddA_init_91 : decode cA_init 91 = .ok (.aload_n 0, 1) := by decide +kernel
theorem ddA_init_92 : decode cA_init 92 = .ok (.new 35, 3) := by decide +kernel
theorem ddA_init_95 : decode cA_init 95 = .ok (.dup, 1) := by decide +kernel
theorem ddA_init_96 : decode cA_init 96 = .ok (.invokespecial 41, 3) := by decide +kernel
theorem ddA_init_99 : decode cA_init 99 = .ok (.putfield 46, 3) := by decide +kernel
theorem ddA_init_102 : decode cA_init 102 = .ok (.aload_n 0, 1) := by decide +kernel
theorem ddA_init_103 : decode cA_init 103 = .ok (.new 50, 3) := by decide +kernel
theorem ddA_init_106 : decode cA_init 106 = .ok (.dup, 1) := by decide +kernel
theorem ddA_init_107 : decode cA_init 107 = .ok (.aload_n 0, 1) := by decide +kernel
theorem ddA_init_108 : decode cA_init 108 = .ok (.getfield 28, 3) := by decide +kernel
theorem ddA_init_111 : decode cA_init 111 = .ok (.invokespecial 52, 3) := by decide +kernel
theorem ddA_init_114 : decode cA_init 114 = .ok (.putfield 55, 3) := by decide +kernel
theorem ddA_init_117 : decode cA_init 117 = .ok (.aload_n 0, 1) := by decide +kernel
theorem ddA_init_118 : decode cA_init 118 = .ok (.new 59, 3) := by decide +kernel
theorem ddA_init_121 : decode cA_init 121 = .ok (.dup, 1) := by decide +kernel
theorem ddA_init_122 : decode cA_init 122 = .ok (.aload_n 0, 1) := by decide +kernel
theorem ddA_init_123 : decode cA_init 123 = .ok (.getfield 28, 3) := by decide +kernel
theorem ddA_init_126 : decode cA_init 126 = .ok (.invokespecial 61, 3) := by decide +kernel
theorem ddA_init_129 : decode cA_init 129 = .ok (.putfield 62, 3) := by decide +kernel
theorem ddA_init_132 : decode cA_init 132 = .ok (.aload_n 0, 1) := by decide +kernel
theorem ddA_init_133 : decode cA_init 133 = .ok (.new 50, 3) := by decide +kernel
theorem ddA_init_136 : decode cA_init 136 = .ok (.dup, 1) := by decide +kernel
theorem ddA_init_137 : decode cA_init 137 = .ok (.aload_n 0, 1) := by decide +kernel
theorem ddA_init_138 : decode cA_init 138 = .ok (.getfield 28, 3) := by decide +kernel
theorem ddA_init_141 : decode cA_init 141 = .ok (.invokespecial 52, 3) := by decide +kernel
theorem ddA_init_144 : decode cA_init 144 = .ok (.putfield 66, 3) := by decide +kernel
theorem ddA_init_147 : decode cA_init 147 = .ok (.aload_n 0, 1) := by decide +kernel
theorem ddA_init_148 : decode cA_init 148 = .ok (.iconst 0, 1) := by decide +kernel
theorem ddA_init_149 : decode cA_init 149 = .ok (.putfield 69, 3) := by decide +kernel
theorem ddA_init_152 : decode cA_init 152 = .ok (.aload_n 0, 1) := by decide +kernel
theorem ddA_init_153 : decode cA_init 153 = .ok (.iconst 4, 1) := by decide +kernel
theorem ddA_init_154 : decode cA_init 154 = .ok (.newarray .int, 2) := by decide +kernel
theorem ddA_init_156 : decode cA_init 156 = .ok (.putfield 73, 3) := by decide +kernel
theorem ddA_init_159 : decode cA_init 159 = .ok (.aload_n 0, 1) := by decide +kernel
theorem ddA_init_160 : decode cA_init 160 = .ok (.new 77, 3) := by decide +kernel
theorem ddA_init_163 : decode cA_init 163 = .ok (.dup, 1) := by decide +kernel
theorem ddA_init_164 : decode cA_init 164 = .ok (.aload_n 0, 1) := by decide +kernel
theorem ddA_init_165 : decode cA_init 165 = .ok (.getfield 28, 3) := by decide +kernel
theorem ddA_init_168 : decode cA_init 168 = .ok (.invokespecial 79, 3) := by decide +kernel
theorem ddA_init_171 : decode cA_init 171 = .ok (.putfield 80, 3) := by decide +kernel
theorem ddA_init_174 : decode cA_init 174 = .ok (.aload_n 0, 1) := by decide +kernel
theorem ddA_init_175 : decode cA_init 175 = .ok (.new 50, 3) := by decide +kernel
theorem ddA_init_178 : decode cA_init 178 = .ok (.dup, 1) := by decide +kernel
theorem ddA_init_179 : decode cA_init 179 = .ok (.aload_n 0, 1) := by decide +kernel
theorem ddA_init_180 : decode cA_init 180 = .ok (.getfield 28, 3) := by decide +kernel
theorem ddA_init_183 : decode cA_init 183 = .ok (.invokespecial 52, 3) := by decide +kernel
theorem ddA_init_186 : decode cA_init 186 = .ok (.putfield 84, 3) := by decide +kernel
theorem ddA_init_189 : decode cA_init 189 = .ok (.aload_n 0, 1) := by decide +kernel
theorem ddA_init_190 : decode cA_init 190 = .ok (.new 87, 3) := by decide +kernel
theorem ddA_init_193 : decode cA_init 193 = .ok (.dup, 1) := by decide +kernel
theorem ddA_init_194 : decode cA_init 194 = .ok (.invokespecial 89, 3) := by decide +kernel
theorem ddA_init_197 : decode cA_init 197 = .ok (.putfield 90, 3) := by decide +kernel
theorem ddA_init_200 : decode cA_init 200 = .ok (.return_, 1) := by decide +kernel
set_option maxHeartbeats 8000000 in
set_option maxRecDepth 100000 in
theorem xA_init {G : GXM} {l : Launch} (hG : GokM G) (hg : G.2.2.2.2 = true) (d : Nat) (hd : 4 ≤ d) {v0 : Nat} {M : Mem} {q : Mem} (h : fA_init v0 M = some q) : ExM G l d 1001 (87915) yA_init cA_init 2 none [.ref v0] M none q := by
  refine ex_of hG (by decide +kernel) (Nat.le_of_ble_eq_true rfl) ?_
  intro X hl C E N hD hn
  have hR := EnM_R E
  show ZM G X 0 [(0, .ref v0)] [] M 0 0
  unfold fA_init at h
  refine zz_aload_n C 0 ddA_init_0 rfl rfl ?_
  refine zz_objInit C ddA_init_1 wd_30 ⟨wd_31, wd_32⟩ (by omega) (Nat.le_of_ble_eq_true rfl) ?_
  refine zz_aload_n C 0 ddA_init_4 rfl rfl ?_
  obtain ⟨q1, hq1, h⟩ := bindN h
  refine zz_new C ddA_init_5 (t := 9) rfl rfl ⟨wd_33, wd_34, wd_2⟩ hg hq1 ⟨by rw [hR]; exact Nat.le_of_ble_eq_true rfl, by rw [hR]; exact Nat.le_of_ble_eq_true rfl⟩ ?_
  refine zz_kn (k1 := 1) (n1 := 2) (by decide) (by decide) ?_
  refine zz_dup C ddA_init_8 rfl ?_
  obtain ⟨q2, hq2, h⟩ := bindN h
  refine zz_callIN (As := []) C ddA_init_9 wd_35 my_T_init ⟨rfl, mi_T_init⟩ (xT_init hG hg (d - 1) (by omega) hq2) (by omega) rfl rfl (Nat.le_of_ble_eq_true rfl) ⟨by rw [hR]; exact Nat.le_of_ble_eq_true rfl, by rw [hR]; exact Nat.le_of_ble_eq_true rfl⟩ ?_
  refine zz_kn (k1 := 2) (n1 := 242) (by decide) (by decide) ?_
  obtain ⟨h3, h⟩ := gdN h
  obtain ⟨h4, h⟩ := gdN h
  obtain ⟨q5, hq5, h⟩ := bindN h
  refine zz_putrq C ddA_init_12 fl_A_12 (Or.inr ⟨hn, _, rfl, rfl⟩) rfl (fun _ => rfl) (fun _ => rfl) h3 (of_decide_eq_true h4) hq5 ?_
  refine zz_aload_n C 0 ddA_init_15 rfl rfl ?_
  obtain ⟨q6, hq6, h⟩ := bindN h
  refine zz_new C ddA_init_16 (t := 6) rfl rfl ⟨wd_50, wd_51, wd_3⟩ hg hq6 ⟨by rw [hR]; exact Nat.le_of_ble_eq_true rfl, by rw [hR]; exact Nat.le_of_ble_eq_true rfl⟩ ?_
  refine zz_kn (k1 := 3) (n1 := 245) (by decide) (by decide) ?_
  refine zz_dup C ddA_init_19 rfl ?_
  refine zz_aload_n C 0 ddA_init_20 rfl rfl ?_
  obtain ⟨h7, h⟩ := gdN h
  obtain ⟨h8, h⟩ := gdN h
  refine zz_getr C ddA_init_21 fl_A_12 rfl h7 (of_decide_eq_true h8) ?_
  obtain ⟨q9, hq9, h⟩ := bindN h
  refine zz_callI (As := [.ref (grM q6 v0 0)]) C ddA_init_24 wd_52 my_R_init ⟨rfl, mi_R_init⟩ (xR_init hG hg (d - 1) (by omega) hq9) (by omega) rfl rfl (Nat.le_of_ble_eq_true rfl) ⟨by rw [hR]; exact Nat.le_of_ble_eq_true rfl, by rw [hR]; exact Nat.le_of_ble_eq_true rfl⟩ ?_
  refine zz_kn (k1 := 3) (n1 := 245) (by decide) (by decide) ?_
  obtain ⟨h10, h⟩ := gdN h
  obtain ⟨h11, h⟩ := gdN h
  obtain ⟨q12, hq12, h⟩ := bindN h
  refine zz_putrq C ddA_init_27 fl_A_21 (Or.inr ⟨hn, _, rfl, rfl⟩) rfl (fun _ => rfl) (fun _ => rfl) h10 (of_decide_eq_true h11) hq12 ?_
  refine zz_aload_n C 0 ddA_init_30 rfl rfl ?_
  obtain ⟨q13, hq13, h⟩ := bindN h
  refine zz_new C ddA_init_31 (t := 7) rfl rfl ⟨wd_68, wd_69, wd_4⟩ hg hq13 ⟨by rw [hR]; exact Nat.le_of_ble_eq_true rfl, by rw [hR]; exact Nat.le_of_ble_eq_true rfl⟩ ?_
  refine zz_kn (k1 := 4) (n1 := 248) (by decide) (by decide) ?_
  refine zz_dup C ddA_init_34 rfl ?_
  obtain ⟨q14, hq14, h⟩ := bindN h
  refine zz_callIN (As := []) C ddA_init_35 wd_70 my_U_init ⟨rfl, mi_U_init⟩ (xU_init hG hg (d - 1) (by omega) hq14) (by omega) rfl rfl (Nat.le_of_ble_eq_true rfl) ⟨by rw [hR]; exact Nat.le_of_ble_eq_true rfl, by rw [hR]; exact Nat.le_of_ble_eq_true rfl⟩ ?_
  refine zz_kn (k1 := 6) (n1 := 259) (by decide) (by decide) ?_
  obtain ⟨h15, h⟩ := gdN h
  obtain ⟨h16, h⟩ := gdN h
  obtain ⟨q17, hq17, h⟩ := bindN h
  refine zz_putrq C ddA_init_38 fl_A_28 (Or.inr ⟨hn, _, rfl, rfl⟩) rfl (fun _ => rfl) (fun _ => rfl) h15 (of_decide_eq_true h16) hq17 ?_
  refine zz_aload_n C 0 ddA_init_41 rfl rfl ?_
  obtain ⟨q18, hq18, h⟩ := bindN h
  refine zz_new C ddA_init_42 (t := 7) rfl rfl ⟨wd_68, wd_69, wd_4⟩ hg hq18 ⟨by rw [hR]; exact Nat.le_of_ble_eq_true rfl, by rw [hR]; exact Nat.le_of_ble_eq_true rfl⟩ ?_
  refine zz_kn (k1 := 7) (n1 := 262) (by decide) (by decide) ?_
  refine zz_dup C ddA_init_45 rfl ?_
  obtain ⟨q19, hq19, h⟩ := bindN h
  refine zz_callIN (As := []) C ddA_init_46 wd_70 my_U_init ⟨rfl, mi_U_init⟩ (xU_init hG hg (d - 1) (by omega) hq19) (by omega) rfl rfl (Nat.le_of_ble_eq_true rfl) ⟨by rw [hR]; exact Nat.le_of_ble_eq_true rfl, by rw [hR]; exact Nat.le_of_ble_eq_true rfl⟩ ?_
  refine zz_kn (k1 := 9) (n1 := 273) (by decide) (by decide) ?_
  obtain ⟨h20, h⟩ := gdN h
  obtain ⟨h21, h⟩ := gdN h
  obtain ⟨q22, hq22, h⟩ := bindN h
  refine zz_putrq C ddA_init_49 fl_A_32 (Or.inr ⟨hn, _, rfl, rfl⟩) rfl (fun _ => rfl) (fun _ => rfl) h20 (of_decide_eq_true h21) hq22 ?_
  refine zz_aload_n C 0 ddA_init_52 rfl rfl ?_
  refine zz_iconst (v := 4) C ddA_init_53 (by decide) ?_
  obtain ⟨q23, hq23, h⟩ := bindN h
  refine zz_newR (t := 104) C ddA_init_54 wd_89 wd_90 (by decide) (fun _ => rfl) hg (by decide) (by decide) hq23 ⟨by rw [hR]; exact Nat.le_of_ble_eq_true rfl, by rw [hR]; exact Nat.le_of_ble_eq_true rfl⟩ ?_
  refine zz_kn (k1 := 10) (n1 := 277) (by decide) (by decide) ?_
  obtain ⟨h24, h⟩ := gdN h
  obtain ⟨h25, h⟩ := gdN h
  obtain ⟨q26, hq26, h⟩ := bindN h
  refine zz_putrq C ddA_init_57 fl_A_37 (Or.inr ⟨hn, _, rfl, rfl⟩) rfl (fun _ => rfl) (fun _ => rfl) h24 (of_decide_eq_true h25) hq26 ?_
  refine zz_iconst (v := 0) C ddA_init_60 (by decide) ?_
  refine zz_istore_n (L1 := [(1, .int 0), (0, .ref v0)]) C ddA_init_61 rfl N (by decide) rfl ?_
  refine zz_iload_n C 0 ddA_init_62 rfl rfl ?_
  refine zz_iconst (v := 4) C ddA_init_63 (by decide) ?_
  refine zz_icmp_ge (tgt := 86) C ddA_init_64 rfl (fun hc => absurd hc (by decide)) (fun hc => ?_)
  refine zz_aload_n C 1 ddA_init_67 rfl rfl ?_
  obtain ⟨h27, h⟩ := gdN h
  obtain ⟨h28, h⟩ := gdN h
  refine zz_getr C ddA_init_68 fl_A_37 rfl h27 (of_decide_eq_true h28) ?_
  refine zz_iload_n C 0 ddA_init_71 rfl rfl ?_
  obtain ⟨q29, hq29, h⟩ := bindN h
  refine zz_new C ddA_init_72 (t := 8) rfl rfl ⟨wd_89, wd_91, wd_5⟩ hg hq29 ⟨by rw [hR]; exact Nat.le_of_ble_eq_true rfl, by rw [hR]; exact Nat.le_of_ble_eq_true rfl⟩ ?_
  refine zz_kn (k1 := 11) (n1 := 281) (by decide) (by decide) ?_
  refine zz_dup C ddA_init_75 rfl ?_
  obtain ⟨q30, hq30, h⟩ := bindN h
  refine zz_callIN (As := []) C ddA_init_76 wd_92 my_S_init ⟨rfl, mi_S_init⟩ (xS_init hG hg (d - 1) (by omega) hq30) (by omega) rfl rfl (Nat.le_of_ble_eq_true rfl) ⟨by rw [hR]; exact Nat.le_of_ble_eq_true rfl, by rw [hR]; exact Nat.le_of_ble_eq_true rfl⟩ ?_
  refine zz_kn (k1 := 14) (n1 := 353) (by decide) (by decide) ?_
  obtain ⟨h31, h⟩ := gdN h
  obtain ⟨h32, h⟩ := gdN h
  obtain ⟨q33, hq33, h⟩ := bindN h
  refine zz_aastoreq (t := 104) (tc := 8) C ddA_init_79 rfl (by decide) (fun _ => rfl) h31 h32 hq33 ?_
  refine zz_iinc (v := 1) (L1 := [(1, .int 1), (0, .ref v0)]) C 0 ddA_init_80 rfl (by decide) N (by decide) rfl ?_
  refine zz_goto (tgt := 62) C ddA_init_83 rfl ?_
  refine zz_iload_n C 0 ddA_init_62 rfl rfl ?_
  refine zz_iconst (v := 4) C ddA_init_63 (by decide) ?_
  refine zz_icmp_ge (tgt := 86) C ddA_init_64 rfl (fun hc => absurd hc (by decide)) (fun hc => ?_)
  refine zz_aload_n C 1 ddA_init_67 rfl rfl ?_
  obtain ⟨h34, h⟩ := gdN h
  obtain ⟨h35, h⟩ := gdN h
  refine zz_getr C ddA_init_68 fl_A_37 rfl h34 (of_decide_eq_true h35) ?_
  refine zz_iload_n C 0 ddA_init_71 rfl rfl ?_
  obtain ⟨q36, hq36, h⟩ := bindN h
  refine zz_new C ddA_init_72 (t := 8) rfl rfl ⟨wd_89, wd_91, wd_5⟩ hg hq36 ⟨by rw [hR]; exact Nat.le_of_ble_eq_true rfl, by rw [hR]; exact Nat.le_of_ble_eq_true rfl⟩ ?_
  refine zz_kn (k1 := 15) (n1 := 357) (by decide) (by decide) ?_
  refine zz_dup C ddA_init_75 rfl ?_
  obtain ⟨q37, hq37, h⟩ := bindN h
  refine zz_callIN (As := []) C ddA_init_76 wd_92 my_S_init ⟨rfl, mi_S_init⟩ (xS_init hG hg (d - 1) (by omega) hq37) (by omega) rfl rfl (Nat.le_of_ble_eq_true rfl) ⟨by rw [hR]; exact Nat.le_of_ble_eq_true rfl, by rw [hR]; exact Nat.le_of_ble_eq_true rfl⟩ ?_
  refine zz_kn (k1 := 18) (n1 := 429) (by decide) (by decide) ?_
  obtain ⟨h38, h⟩ := gdN h
  obtain ⟨h39, h⟩ := gdN h
  obtain ⟨q40, hq40, h⟩ := bindN h
  refine zz_aastoreq (t := 104) (tc := 8) C ddA_init_79 rfl (by decide) (fun _ => rfl) h38 h39 hq40 ?_
  refine zz_iinc (v := 2) (L1 := [(1, .int 2), (0, .ref v0)]) C 0 ddA_init_80 rfl (by decide) N (by decide) rfl ?_
  refine zz_goto (tgt := 62) C ddA_init_83 rfl ?_
  refine zz_iload_n C 0 ddA_init_62 rfl rfl ?_
  refine zz_iconst (v := 4) C ddA_init_63 (by decide) ?_
  refine zz_icmp_ge (tgt := 86) C ddA_init_64 rfl (fun hc => absurd hc (by decide)) (fun hc => ?_)
  refine zz_aload_n C 1 ddA_init_67 rfl rfl ?_
  obtain ⟨h41, h⟩ := gdN h
  obtain ⟨h42, h⟩ := gdN h
  refine zz_getr C ddA_init_68 fl_A_37 rfl h41 (of_decide_eq_true h42) ?_
  refine zz_iload_n C 0 ddA_init_71 rfl rfl ?_
  obtain ⟨q43, hq43, h⟩ := bindN h
  refine zz_new C ddA_init_72 (t := 8) rfl rfl ⟨wd_89, wd_91, wd_5⟩ hg hq43 ⟨by rw [hR]; exact Nat.le_of_ble_eq_true rfl, by rw [hR]; exact Nat.le_of_ble_eq_true rfl⟩ ?_
  refine zz_kn (k1 := 19) (n1 := 433) (by decide) (by decide) ?_
  refine zz_dup C ddA_init_75 rfl ?_
  obtain ⟨q44, hq44, h⟩ := bindN h
  refine zz_callIN (As := []) C ddA_init_76 wd_92 my_S_init ⟨rfl, mi_S_init⟩ (xS_init hG hg (d - 1) (by omega) hq44) (by omega) rfl rfl (Nat.le_of_ble_eq_true rfl) ⟨by rw [hR]; exact Nat.le_of_ble_eq_true rfl, by rw [hR]; exact Nat.le_of_ble_eq_true rfl⟩ ?_
  refine zz_kn (k1 := 22) (n1 := 505) (by decide) (by decide) ?_
  obtain ⟨h45, h⟩ := gdN h
  obtain ⟨h46, h⟩ := gdN h
  obtain ⟨q47, hq47, h⟩ := bindN h
  refine zz_aastoreq (t := 104) (tc := 8) C ddA_init_79 rfl (by decide) (fun _ => rfl) h45 h46 hq47 ?_
  refine zz_iinc (v := 3) (L1 := [(1, .int 3), (0, .ref v0)]) C 0 ddA_init_80 rfl (by decide) N (by decide) rfl ?_
  refine zz_goto (tgt := 62) C ddA_init_83 rfl ?_
  refine zz_iload_n C 0 ddA_init_62 rfl rfl ?_
  refine zz_iconst (v := 4) C ddA_init_63 (by decide) ?_
  refine zz_icmp_ge (tgt := 86) C ddA_init_64 rfl (fun hc => absurd hc (by decide)) (fun hc => ?_)
  refine zz_aload_n C 1 ddA_init_67 rfl rfl ?_
  obtain ⟨h48, h⟩ := gdN h
  obtain ⟨h49, h⟩ := gdN h
  refine zz_getr C ddA_init_68 fl_A_37 rfl h48 (of_decide_eq_true h49) ?_
  refine zz_iload_n C 0 ddA_init_71 rfl rfl ?_
  obtain ⟨q50, hq50, h⟩ := bindN h
  refine zz_new C ddA_init_72 (t := 8) rfl rfl ⟨wd_89, wd_91, wd_5⟩ hg hq50 ⟨by rw [hR]; exact Nat.le_of_ble_eq_true rfl, by rw [hR]; exact Nat.le_of_ble_eq_true rfl⟩ ?_
  refine zz_kn (k1 := 23) (n1 := 509) (by decide) (by decide) ?_
  refine zz_dup C ddA_init_75 rfl ?_
  obtain ⟨q51, hq51, h⟩ := bindN h
  refine zz_callIN (As := []) C ddA_init_76 wd_92 my_S_init ⟨rfl, mi_S_init⟩ (xS_init hG hg (d - 1) (by omega) hq51) (by omega) rfl rfl (Nat.le_of_ble_eq_true rfl) ⟨by rw [hR]; exact Nat.le_of_ble_eq_true rfl, by rw [hR]; exact Nat.le_of_ble_eq_true rfl⟩ ?_
  refine zz_kn (k1 := 26) (n1 := 581) (by decide) (by decide) ?_
  obtain ⟨h52, h⟩ := gdN h
  obtain ⟨h53, h⟩ := gdN h
  obtain ⟨q54, hq54, h⟩ := bindN h
  refine zz_aastoreq (t := 104) (tc := 8) C ddA_init_79 rfl (by decide) (fun _ => rfl) h52 h53 hq54 ?_
  refine zz_iinc (v := 4) (L1 := [(1, .int 4), (0, .ref v0)]) C 0 ddA_init_80 rfl (by decide) N (by decide) rfl ?_
  refine zz_goto (tgt := 62) C ddA_init_83 rfl ?_
  refine zz_iload_n C 0 ddA_init_62 rfl rfl ?_
  refine zz_iconst (v := 4) C ddA_init_63 (by decide) ?_
  refine zz_icmp_ge (tgt := 86) C ddA_init_64 rfl (fun hc => ?_) (fun hc => absurd hc (by decide))
  refine zz_aload_n C 1 ddA_init_86 rfl rfl ?_
  refine zz_iconst (v := 0) C ddA_init_87 (by decide) ?_
  obtain ⟨h55, h⟩ := gdN h
  refine zz_puti C ddA_init_88 fl_A_42 rfl rfl rfl h55 ?_
  refine zz_aload_n C 1 ddA_init_91 rfl rfl ?_
  obtain ⟨q56, hq56, h⟩ := bindN h
  refine zz_new C ddA_init_92 (t := 8) rfl rfl ⟨wd_89, wd_91, wd_5⟩ hg hq56 ⟨by rw [hR]; exact Nat.le_of_ble_eq_true rfl, by rw [hR]; exact Nat.le_of_ble_eq_true rfl⟩ ?_
  refine zz_kn (k1 := 27) (n1 := 585) (by decide) (by decide) ?_
  refine zz_dup C ddA_init_95 rfl ?_
  obtain ⟨q57, hq57, h⟩ := bindN h
  refine zz_callIN (As := []) C ddA_init_96 wd_92 my_S_init ⟨rfl, mi_S_init⟩ (xS_init hG hg (d - 1) (by omega) hq57) (by omega) rfl rfl (Nat.le_of_ble_eq_true rfl) ⟨by rw [hR]; exact Nat.le_of_ble_eq_true rfl, by rw [hR]; exact Nat.le_of_ble_eq_true rfl⟩ ?_
  refine zz_kn (k1 := 30) (n1 := 657) (by decide) (by decide) ?_
  obtain ⟨h58, h⟩ := gdN h
  obtain ⟨h59, h⟩ := gdN h
  obtain ⟨q60, hq60, h⟩ := bindN h
  refine zz_putrq C ddA_init_99 fl_A_46 (Or.inr ⟨hn, _, rfl, rfl⟩) rfl (fun _ => rfl) (fun _ => rfl) h58 (of_decide_eq_true h59) hq60 ?_
  refine zz_aload_n C 1 ddA_init_102 rfl rfl ?_
  obtain ⟨q61, hq61, h⟩ := bindN h
  refine zz_new C ddA_init_103 (t := 1) rfl rfl ⟨wd_118, wd_119, wd_6⟩ hg hq61 ⟨by rw [hR]; exact Nat.le_of_ble_eq_true rfl, by rw [hR]; exact Nat.le_of_ble_eq_true rfl⟩ ?_
  refine zz_kn (k1 := 31) (n1 := 666) (by decide) (by decide) ?_
  refine zz_dup C ddA_init_106 rfl ?_
  refine zz_aload_n C 1 ddA_init_107 rfl rfl ?_
  obtain ⟨h62, h⟩ := gdN h
  obtain ⟨h63, h⟩ := gdN h
  refine zz_getr C ddA_init_108 fl_A_28 rfl h62 (of_decide_eq_true h63) ?_
  obtain ⟨q64, hq64, h⟩ := bindN h
  refine zz_callI (As := [.ref (grM q61 v0 2)]) C ddA_init_111 wd_120 my_H_init ⟨rfl, mi_H_init⟩ (xH_init hG hg (d - 1) (by omega) hq64) (by omega) rfl rfl (Nat.le_of_ble_eq_true rfl) ⟨by rw [hR]; exact Nat.le_of_ble_eq_true rfl, by rw [hR]; exact Nat.le_of_ble_eq_true rfl⟩ ?_
  refine zz_kn (k1 := 48) (n1 := 2376) (by decide) (by decide) ?_
  obtain ⟨h65, h⟩ := gdN h
  obtain ⟨h66, h⟩ := gdN h
  obtain ⟨q67, hq67, h⟩ := bindN h
  refine zz_putrq C ddA_init_114 fl_A_55 (Or.inr ⟨hn, _, rfl, rfl⟩) rfl (fun _ => rfl) (fun _ => rfl) h65 (of_decide_eq_true h66) hq67 ?_
  refine zz_aload_n C 1 ddA_init_117 rfl rfl ?_
  obtain ⟨q68, hq68, h⟩ := bindN h
  refine zz_new C ddA_init_118 (t := 4) rfl rfl ⟨wd_201, wd_202, wd_10⟩ hg hq68 ⟨by rw [hR]; exact Nat.le_of_ble_eq_true rfl, by rw [hR]; exact Nat.le_of_ble_eq_true rfl⟩ ?_
  refine zz_kn (k1 := 49) (n1 := 2379) (by decide) (by decide) ?_
  refine zz_dup C ddA_init_121 rfl ?_
  refine zz_aload_n C 1 ddA_init_122 rfl rfl ?_
  obtain ⟨h69, h⟩ := gdN h
  obtain ⟨h70, h⟩ := gdN h
  refine zz_getr C ddA_init_123 fl_A_28 rfl h69 (of_decide_eq_true h70) ?_
  obtain ⟨q71, hq71, h⟩ := bindN h
  refine zz_callI (As := [.ref (grM q68 v0 2)]) C ddA_init_126 wd_203 my_P_init ⟨rfl, mi_P_init⟩ (xP_init hG hg (d - 1) (by omega) hq71) (by omega) rfl rfl (Nat.le_of_ble_eq_true rfl) ⟨by rw [hR]; exact Nat.le_of_ble_eq_true rfl, by rw [hR]; exact Nat.le_of_ble_eq_true rfl⟩ ?_
  refine zz_kn (k1 := 770) (n1 := 71179) (by decide) (by decide) ?_
  obtain ⟨h72, h⟩ := gdN h
  obtain ⟨h73, h⟩ := gdN h
  obtain ⟨q74, hq74, h⟩ := bindN h
  refine zz_putrq C ddA_init_129 fl_A_62 (Or.inr ⟨hn, _, rfl, rfl⟩) rfl (fun _ => rfl) (fun _ => rfl) h72 (of_decide_eq_true h73) hq74 ?_
  refine zz_aload_n C 1 ddA_init_132 rfl rfl ?_
  obtain ⟨q75, hq75, h⟩ := bindN h
  refine zz_new C ddA_init_133 (t := 1) rfl rfl ⟨wd_118, wd_119, wd_6⟩ hg hq75 ⟨by rw [hR]; exact Nat.le_of_ble_eq_true rfl, by rw [hR]; exact Nat.le_of_ble_eq_true rfl⟩ ?_
  refine zz_kn (k1 := 771) (n1 := 71188) (by decide) (by decide) ?_
  refine zz_dup C ddA_init_136 rfl ?_
  refine zz_aload_n C 1 ddA_init_137 rfl rfl ?_
  obtain ⟨h76, h⟩ := gdN h
  obtain ⟨h77, h⟩ := gdN h
  refine zz_getr C ddA_init_138 fl_A_28 rfl h76 (of_decide_eq_true h77) ?_
  obtain ⟨q78, hq78, h⟩ := bindN h
  refine zz_callI (As := [.ref (grM q75 v0 2)]) C ddA_init_141 wd_120 my_H_init ⟨rfl, mi_H_init⟩ (xH_init hG hg (d - 1) (by omega) hq78) (by omega) rfl rfl (Nat.le_of_ble_eq_true rfl) ⟨by rw [hR]; exact Nat.le_of_ble_eq_true rfl, by rw [hR]; exact Nat.le_of_ble_eq_true rfl⟩ ?_
  refine zz_kn (k1 := 788) (n1 := 72898) (by decide) (by decide) ?_
  obtain ⟨h79, h⟩ := gdN h
  obtain ⟨h80, h⟩ := gdN h
  obtain ⟨q81, hq81, h⟩ := bindN h
  refine zz_putrq C ddA_init_144 fl_A_66 (Or.inr ⟨hn, _, rfl, rfl⟩) rfl (fun _ => rfl) (fun _ => rfl) h79 (of_decide_eq_true h80) hq81 ?_
  refine zz_aload_n C 1 ddA_init_147 rfl rfl ?_
  refine zz_iconst (v := 0) C ddA_init_148 (by decide) ?_
  obtain ⟨h82, h⟩ := gdN h
  refine zz_puti C ddA_init_149 fl_A_69 rfl rfl rfl h82 ?_
  refine zz_aload_n C 1 ddA_init_152 rfl rfl ?_
  refine zz_iconst (v := 4) C ddA_init_153 (by decide) ?_
  obtain ⟨q83, hq83, h⟩ := bindN h
  refine zz_newI C ddA_init_154 wd_49 hg (by decide) (by decide) hq83 ⟨by rw [hR]; exact Nat.le_of_ble_eq_true rfl, by rw [hR]; exact Nat.le_of_ble_eq_true rfl⟩ ?_
  refine zz_kn (k1 := 789) (n1 := 72902) (by decide) (by decide) ?_
  obtain ⟨h84, h⟩ := gdN h
  obtain ⟨h85, h⟩ := gdN h
  obtain ⟨q86, hq86, h⟩ := bindN h
  refine zz_putrq C ddA_init_156 fl_A_73 (Or.inr ⟨hn, _, rfl, rfl⟩) rfl (fun _ => rfl) (fun _ => rfl) h84 (of_decide_eq_true h85) hq86 ?_
  refine zz_aload_n C 1 ddA_init_159 rfl rfl ?_
  obtain ⟨q87, hq87, h⟩ := bindN h
  refine zz_new C ddA_init_160 (t := 3) rfl rfl ⟨wd_221, wd_222, wd_11⟩ hg hq87 ⟨by rw [hR]; exact Nat.le_of_ble_eq_true rfl, by rw [hR]; exact Nat.le_of_ble_eq_true rfl⟩ ?_
  refine zz_kn (k1 := 790) (n1 := 72911) (by decide) (by decide) ?_
  refine zz_dup C ddA_init_163 rfl ?_
  refine zz_aload_n C 1 ddA_init_164 rfl rfl ?_
  obtain ⟨h88, h⟩ := gdN h
  obtain ⟨h89, h⟩ := gdN h
  refine zz_getr C ddA_init_165 fl_A_28 rfl h88 (of_decide_eq_true h89) ?_
  obtain ⟨q90, hq90, h⟩ := bindN h
  refine zz_callI (As := [.ref (grM q87 v0 2)]) C ddA_init_168 wd_223 my_X_init ⟨rfl, mi_X_init⟩ (xX_init hG hg (d - 1) (by omega) hq90) (by omega) rfl rfl (Nat.le_of_ble_eq_true rfl) ⟨by rw [hR]; exact Nat.le_of_ble_eq_true rfl, by rw [hR]; exact Nat.le_of_ble_eq_true rfl⟩ ?_
  refine zz_kn (k1 := 979) (n1 := 86119) (by decide) (by decide) ?_
  obtain ⟨h91, h⟩ := gdN h
  obtain ⟨h92, h⟩ := gdN h
  obtain ⟨q93, hq93, h⟩ := bindN h
  refine zz_putrq C ddA_init_171 fl_A_80 (Or.inr ⟨hn, _, rfl, rfl⟩) rfl (fun _ => rfl) (fun _ => rfl) h91 (of_decide_eq_true h92) hq93 ?_
  refine zz_aload_n C 1 ddA_init_174 rfl rfl ?_
  obtain ⟨q94, hq94, h⟩ := bindN h
  refine zz_new C ddA_init_175 (t := 1) rfl rfl ⟨wd_118, wd_119, wd_6⟩ hg hq94 ⟨by rw [hR]; exact Nat.le_of_ble_eq_true rfl, by rw [hR]; exact Nat.le_of_ble_eq_true rfl⟩ ?_
  refine zz_kn (k1 := 980) (n1 := 86128) (by decide) (by decide) ?_
  refine zz_dup C ddA_init_178 rfl ?_
  refine zz_aload_n C 1 ddA_init_179 rfl rfl ?_
  obtain ⟨h95, h⟩ := gdN h
  obtain ⟨h96, h⟩ := gdN h
  refine zz_getr C ddA_init_180 fl_A_28 rfl h95 (of_decide_eq_true h96) ?_
  obtain ⟨q97, hq97, h⟩ := bindN h
  refine zz_callI (As := [.ref (grM q94 v0 2)]) C ddA_init_183 wd_120 my_H_init ⟨rfl, mi_H_init⟩ (xH_init hG hg (d - 1) (by omega) hq97) (by omega) rfl rfl (Nat.le_of_ble_eq_true rfl) ⟨by rw [hR]; exact Nat.le_of_ble_eq_true rfl, by rw [hR]; exact Nat.le_of_ble_eq_true rfl⟩ ?_
  refine zz_kn (k1 := 997) (n1 := 87838) (by decide) (by decide) ?_
  obtain ⟨h98, h⟩ := gdN h
  obtain ⟨h99, h⟩ := gdN h
  obtain ⟨q100, hq100, h⟩ := bindN h
  refine zz_putrq C ddA_init_186 fl_A_84 (Or.inr ⟨hn, _, rfl, rfl⟩) rfl (fun _ => rfl) (fun _ => rfl) h98 (of_decide_eq_true h99) hq100 ?_
  refine zz_aload_n C 1 ddA_init_189 rfl rfl ?_
  obtain ⟨q101, hq101, h⟩ := bindN h
  refine zz_new C ddA_init_190 (t := 5) rfl rfl ⟨wd_286, wd_231, wd_12⟩ hg hq101 ⟨by rw [hR]; exact Nat.le_of_ble_eq_true rfl, by rw [hR]; exact Nat.le_of_ble_eq_true rfl⟩ ?_
  refine zz_kn (k1 := 998) (n1 := 87843) (by decide) (by decide) ?_
  refine zz_dup C ddA_init_193 rfl ?_
  obtain ⟨q102, hq102, h⟩ := bindN h
  refine zz_callIN (As := []) C ddA_init_194 wd_287 my_G_init ⟨rfl, mi_G_init⟩ (xG_init hG hg (d - 1) (by omega) hq102) (by omega) rfl rfl (Nat.le_of_ble_eq_true rfl) ⟨by rw [hR]; exact Nat.le_of_ble_eq_true rfl, by rw [hR]; exact Nat.le_of_ble_eq_true rfl⟩ ?_
  refine zz_kn (k1 := 1001) (n1 := 87915) (by decide) (by decide) ?_
  obtain ⟨h103, h⟩ := gdN h
  obtain ⟨h104, h⟩ := gdN h
  obtain ⟨q105, hq105, h⟩ := bindN h
  refine zz_putrq C ddA_init_197 fl_A_90 (Or.inr ⟨hn, _, rfl, rfl⟩) rfl (fun _ => rfl) (fun _ => rfl) h103 (of_decide_eq_true h104) hq105 ?_
  obtain rfl := Option.some.inj h
  exact zz_vret C E ddA_init_200
theorem ddM_init_0 : decode cM_init 0 = .ok (.aload_n 0, 1) := by decide +kernel
theorem ddM_init_1 : decode cM_init 1 = .ok (.invokespecial 3, 3) := by decide +kernel
theorem ddM_init_4 : decode cM_init 4 = .ok (.aload_n 0, 1) := by decide +kernel
theorem ddM_init_5 : decode cM_init 5 = .ok (.sipush 240, 3) := by decide +kernel
theorem ddM_init_8 : decode cM_init 8 = .ok (.newarray .int, 2) := by decide +kernel
theorem ddM_init_10 : decode cM_init 10 = .ok (.putfield 9, 3) := by decide +kernel
theorem ddM_init_13 : decode cM_init 13 = .ok (.aload_n 0, 1) := by decide +kernel
theorem ddM_init_14 : decode cM_init 14 = .ok (.iconst 5, 1) := by decide +kernel
theorem ddM_init_15 : decode cM_init 15 = .ok (.newarray .int, 2) := by decide +kernel
theorem ddM_init_17 : decode cM_init 17 = .ok (.putfield 13, 3) := by decide +kernel
theorem ddM_init_20 : decode cM_init 20 = .ok (.aload_n 0, 1) := by decide +kernel
theorem ddM_init_21 : decode cM_init 21 = .ok (.bipush 6, 2) := by decide +kernel
theorem ddM_init_23 : decode cM_init 23 = .ok (.newarray .int, 2) := by decide +kernel
theorem ddM_init_25 : decode cM_init 25 = .ok (.putfield 16, 3) := by decide +kernel
theorem ddM_init_28 : decode cM_init 28 = .ok (.aload_n 0, 1) := by decide +kernel
theorem ddM_init_29 : decode cM_init 29 = .ok (.iconst 5, 1) := by decide +kernel
theorem ddM_init_30 : decode cM_init 30 = .ok (.newarray .int, 2) := by decide +kernel
theorem ddM_init_32 : decode cM_init 32 = .ok (.putfield 19, 3) := by decide +kernel
theorem ddM_init_35 : decode cM_init 35 = .ok (.aload_n 0, 1) := by decide +kernel
theorem ddM_init_36 : decode cM_init 36 = .ok (.bipush 6, 2) := by decide +kernel
theorem ddM_init_38 : decode cM_init 38 = .ok (.newarray .int, 2) := by decide +kernel
theorem ddM_init_40 : decode cM_init 40 = .ok (.putfield 22, 3) := by decide +kernel
theorem ddM_init_43 : decode cM_init 43 = .ok (.aload_n 0, 1) := by decide +kernel
theorem ddM_init_44 : decode cM_init 44 = .ok (.sipush 360, 3) := by decide +kernel
theorem ddM_init_47 : decode cM_init 47 = .ok (.newarray .int, 2) := by decide +kernel
theorem ddM_init_49 : decode cM_init 49 = .ok (.putfield 25, 3) := by decide +kernel
theorem ddM_init_52 : decode cM_init 52 = .ok (.aload_n 0, 1) := by decide +kernel
theorem ddM_init_53 : decode cM_init 53 = .ok (.iconst 5, 1) := by decide +kernel
theorem ddM_init_54 : decode cM_init 54 = .ok (.newarray .int, 2) := by decide +kernel
theorem ddM_init_56 : decode cM_init 56 = .ok (.putfield 28, 3) := by decide +kernel
theorem ddM_init_59 : decode cM_init 59 = .ok (.aload_n 0, 1) := by decide +kernel
theorem ddM_init_60 : decode cM_init 60 = .ok (.sipush 3893, 3) := by decide +kernel
theorem ddM_init_63 : decode cM_init 63 = .ok (.newarray .int, 2) := by decide +kernel
theorem ddM_init_65 : decode cM_init 65 = .ok (.putfield 31, 3) := by decide +kernel
theorem ddM_init_68 : decode cM_init 68 = .ok (.aload_n 0, 1) := by decide +kernel
theorem ddM_init_69 : decode cM_init 69 = .ok (.iconst 4, 1) := by decide +kernel
theorem ddM_init_70 : decode cM_init 70 = .ok (.newarray .int, 2) := by decide +kernel
theorem ddM_init_72 : decode cM_init 72 = .ok (.putfield 34, 3) := by decide +kernel
theorem ddM_init_75 : decode cM_init 75 = .ok (.aload_n 0, 1) := by decide +kernel
theorem ddM_init_76 : decode cM_init 76 = .ok (.bipush 48, 2) := by decide +kernel
theorem ddM_init_78 : decode cM_init 78 = .ok (.newarray .int, 2) := by decide +kernel
theorem ddM_init_80 : decode cM_init 80 = .ok (.putfield 37, 3) := by decide +kernel
theorem ddM_init_83 : decode cM_init 83 = .ok (.aload_n 0, 1) := by decide +kernel
theorem ddM_init_84 : decode cM_init 84 = .ok (.bipush 48, 2) := by decide +kernel
theorem ddM_init_86 : decode cM_init 86 = .ok (.newarray .int, 2) := by decide +kernel
theorem ddM_init_88 : decode cM_init 88 = .ok (.putfield 40, 3) := by decide +kernel
theorem ddM_init_91 : decode cM_init 91 = .ok (.aload_n 0, 1) := by decide +kernel
theorem ddM_init_92 : decode cM_init 92 = .ok (.bipush 48, 2) := by decide +kernel
theorem ddM_init_94 : decode cM_init 94 = .ok (.newarray .int, 2) := by decide +kernel
theorem ddM_init_96 : decode cM_init 96 = .ok (.putfield 43, 3) := by decide +kernel
theorem ddM_init_99 : decode cM_init 99 = .ok (.aload_n 0, 1) := by decide +kernel
theorem ddM_init_100 : decode cM_init 100 = .ok (.bipush 48, 2) := by decide +kernel
theorem ddM_init_102 : decode cM_init 102 = .ok (.newarray .boolean, 2) := by decide +kernel
theorem ddM_init_104 : decode cM_init 104 = .ok (.putfield 46, 3) := by decide +kernel
theorem ddM_init_107 : decode cM_init 107 = .ok (.aload_n 0, 1) := by decide +kernel
theorem ddM_init_108 : decode cM_init 108 = .ok (.iconst 2, 1) := by decide +kernel
theorem ddM_init_109 : decode cM_init 109 = .ok (.newarray .int, 2) := by decide +kernel
theorem ddM_init_111 : decode cM_init 111 = .ok (.putfield 50, 3) := by decide +kernel
theorem ddM_init_114 : decode cM_init 114 = .ok (.aload_n 0, 1) := by decide +kernel
theorem ddM_init_115 : decode cM_init 115 = .ok (.ldc 53, 2) := by decide +kernel
theorem ddM_init_117 : decode cM_init 117 = .ok (.newarray .int, 2) := by decide +kernel
theorem ddM_init_119 : decode cM_init 119 = .ok (.putfield 54, 3) := by decide +kernel
theorem ddM_init_122 : decode cM_init 122 = .ok (.aload_n 0, 1) := by decide +kernel
theorem ddM_init_123 : decode cM_init 123 = .ok (.ldc 57, 2) := by decide +kernel
theorem ddM_init_125 : decode cM_init 125 = .ok (.newarray .int, 2) := by decide +kernel
theorem ddM_init_127 : decode cM_init 127 = .ok (.putfield 58, 3) := by decide +kernel
theorem ddM_init_130 : decode cM_init 130 = .ok (.aload_n 0, 1) := by decide +kernel
theorem ddM_init_131 : decode cM_init 131 = .ok (.sipush 3893, 3) := by decide +kernel
theorem ddM_init_134 : decode cM_init 134 = .ok (.newarray .int, 2) := by decide +kernel
theorem ddM_init_136 : decode cM_init 136 = .ok (.putfield 61, 3) := by decide +kernel
theorem ddM_init_139 : decode cM_init 139 = .ok (.return_, 1) := by decide +kernel
set_option maxHeartbeats 8000000 in
set_option maxRecDepth 100000 in
theorem xM_init {G : GXM} {l : Launch} (hG : GokM G) (hg : G.2.2.2.2 = true) (d : Nat) (hd : 1 ≤ d) {v0 : Nat} {M : Mem} {q : Mem} (h : fM_init v0 M = some q) : ExM G l d 17 (212587) yM_init cM_init 1 none [.ref v0] M none q := by
  refine ex_of hG (by decide +kernel) (Nat.le_of_ble_eq_true rfl) ?_
  intro X hl C E N hD hn
  have hR := EnM_R E
  show ZM G X 0 [(0, .ref v0)] [] M 0 0
  unfold fM_init at h
  refine zz_aload_n C 0 ddM_init_0 rfl rfl ?_
  refine zz_objInit C ddM_init_1 wd_1167 ⟨wd_31, wd_32⟩ (by omega) (Nat.le_of_ble_eq_true rfl) ?_
  refine zz_aload_n C 0 ddM_init_4 rfl rfl ?_
  refine zz_sipush (v := 240) C ddM_init_5 (by decide) ?_
  obtain ⟨q1, hq1, h⟩ := bindN h
  refine zz_newI C ddM_init_8 wd_49 hg (by decide) (by decide) hq1 ⟨by rw [hR]; exact Nat.le_of_ble_eq_true rfl, by rw [hR]; exact Nat.le_of_ble_eq_true rfl⟩ ?_
  refine zz_kn (k1 := 1) (n1 := 240) (by decide) (by decide) ?_
  obtain ⟨h2, h⟩ := gdN h
  obtain ⟨h3, h⟩ := gdN h
  obtain ⟨q4, hq4, h⟩ := bindN h
  refine zz_putrq C ddM_init_10 fl_M_9 (Or.inr ⟨hn, _, rfl, rfl⟩) rfl (fun _ => rfl) (fun _ => rfl) h2 (of_decide_eq_true h3) hq4 ?_
  refine zz_aload_n C 0 ddM_init_13 rfl rfl ?_
  refine zz_iconst (v := 5) C ddM_init_14 (by decide) ?_
  obtain ⟨q5, hq5, h⟩ := bindN h
  refine zz_newI C ddM_init_15 wd_49 hg (by decide) (by decide) hq5 ⟨by rw [hR]; exact Nat.le_of_ble_eq_true rfl, by rw [hR]; exact Nat.le_of_ble_eq_true rfl⟩ ?_
  refine zz_kn (k1 := 2) (n1 := 245) (by decide) (by decide) ?_
  obtain ⟨h6, h⟩ := gdN h
  obtain ⟨h7, h⟩ := gdN h
  obtain ⟨q8, hq8, h⟩ := bindN h
  refine zz_putrq C ddM_init_17 fl_M_13 (Or.inr ⟨hn, _, rfl, rfl⟩) rfl (fun _ => rfl) (fun _ => rfl) h6 (of_decide_eq_true h7) hq8 ?_
  refine zz_aload_n C 0 ddM_init_20 rfl rfl ?_
  refine zz_bipush (v := 6) C ddM_init_21 (by decide) ?_
  obtain ⟨q9, hq9, h⟩ := bindN h
  refine zz_newI C ddM_init_23 wd_49 hg (by decide) (by decide) hq9 ⟨by rw [hR]; exact Nat.le_of_ble_eq_true rfl, by rw [hR]; exact Nat.le_of_ble_eq_true rfl⟩ ?_
  refine zz_kn (k1 := 3) (n1 := 251) (by decide) (by decide) ?_
  obtain ⟨h10, h⟩ := gdN h
  obtain ⟨h11, h⟩ := gdN h
  obtain ⟨q12, hq12, h⟩ := bindN h
  refine zz_putrq C ddM_init_25 fl_M_16 (Or.inr ⟨hn, _, rfl, rfl⟩) rfl (fun _ => rfl) (fun _ => rfl) h10 (of_decide_eq_true h11) hq12 ?_
  refine zz_aload_n C 0 ddM_init_28 rfl rfl ?_
  refine zz_iconst (v := 5) C ddM_init_29 (by decide) ?_
  obtain ⟨q13, hq13, h⟩ := bindN h
  refine zz_newI C ddM_init_30 wd_49 hg (by decide) (by decide) hq13 ⟨by rw [hR]; exact Nat.le_of_ble_eq_true rfl, by rw [hR]; exact Nat.le_of_ble_eq_true rfl⟩ ?_
  refine zz_kn (k1 := 4) (n1 := 256) (by decide) (by decide) ?_
  obtain ⟨h14, h⟩ := gdN h
  obtain ⟨h15, h⟩ := gdN h
  obtain ⟨q16, hq16, h⟩ := bindN h
  refine zz_putrq C ddM_init_32 fl_M_19 (Or.inr ⟨hn, _, rfl, rfl⟩) rfl (fun _ => rfl) (fun _ => rfl) h14 (of_decide_eq_true h15) hq16 ?_
  refine zz_aload_n C 0 ddM_init_35 rfl rfl ?_
  refine zz_bipush (v := 6) C ddM_init_36 (by decide) ?_
  obtain ⟨q17, hq17, h⟩ := bindN h
  refine zz_newI C ddM_init_38 wd_49 hg (by decide) (by decide) hq17 ⟨by rw [hR]; exact Nat.le_of_ble_eq_true rfl, by rw [hR]; exact Nat.le_of_ble_eq_true rfl⟩ ?_
  refine zz_kn (k1 := 5) (n1 := 262) (by decide) (by decide) ?_
  obtain ⟨h18, h⟩ := gdN h
  obtain ⟨h19, h⟩ := gdN h
  obtain ⟨q20, hq20, h⟩ := bindN h
  refine zz_putrq C ddM_init_40 fl_M_22 (Or.inr ⟨hn, _, rfl, rfl⟩) rfl (fun _ => rfl) (fun _ => rfl) h18 (of_decide_eq_true h19) hq20 ?_
  refine zz_aload_n C 0 ddM_init_43 rfl rfl ?_
  refine zz_sipush (v := 360) C ddM_init_44 (by decide) ?_
  obtain ⟨q21, hq21, h⟩ := bindN h
  refine zz_newI C ddM_init_47 wd_49 hg (by decide) (by decide) hq21 ⟨by rw [hR]; exact Nat.le_of_ble_eq_true rfl, by rw [hR]; exact Nat.le_of_ble_eq_true rfl⟩ ?_
  refine zz_kn (k1 := 6) (n1 := 622) (by decide) (by decide) ?_
  obtain ⟨h22, h⟩ := gdN h
  obtain ⟨h23, h⟩ := gdN h
  obtain ⟨q24, hq24, h⟩ := bindN h
  refine zz_putrq C ddM_init_49 fl_M_25 (Or.inr ⟨hn, _, rfl, rfl⟩) rfl (fun _ => rfl) (fun _ => rfl) h22 (of_decide_eq_true h23) hq24 ?_
  refine zz_aload_n C 0 ddM_init_52 rfl rfl ?_
  refine zz_iconst (v := 5) C ddM_init_53 (by decide) ?_
  obtain ⟨q25, hq25, h⟩ := bindN h
  refine zz_newI C ddM_init_54 wd_49 hg (by decide) (by decide) hq25 ⟨by rw [hR]; exact Nat.le_of_ble_eq_true rfl, by rw [hR]; exact Nat.le_of_ble_eq_true rfl⟩ ?_
  refine zz_kn (k1 := 7) (n1 := 627) (by decide) (by decide) ?_
  obtain ⟨h26, h⟩ := gdN h
  obtain ⟨h27, h⟩ := gdN h
  obtain ⟨q28, hq28, h⟩ := bindN h
  refine zz_putrq C ddM_init_56 fl_M_28 (Or.inr ⟨hn, _, rfl, rfl⟩) rfl (fun _ => rfl) (fun _ => rfl) h26 (of_decide_eq_true h27) hq28 ?_
  refine zz_aload_n C 0 ddM_init_59 rfl rfl ?_
  refine zz_sipush (v := 3893) C ddM_init_60 (by decide) ?_
  obtain ⟨q29, hq29, h⟩ := bindN h
  refine zz_newI C ddM_init_63 wd_49 hg (by decide) (by decide) hq29 ⟨by rw [hR]; exact Nat.le_of_ble_eq_true rfl, by rw [hR]; exact Nat.le_of_ble_eq_true rfl⟩ ?_
  refine zz_kn (k1 := 8) (n1 := 4520) (by decide) (by decide) ?_
  obtain ⟨h30, h⟩ := gdN h
  obtain ⟨h31, h⟩ := gdN h
  obtain ⟨q32, hq32, h⟩ := bindN h
  refine zz_putrq C ddM_init_65 fl_M_31 (Or.inr ⟨hn, _, rfl, rfl⟩) rfl (fun _ => rfl) (fun _ => rfl) h30 (of_decide_eq_true h31) hq32 ?_
  refine zz_aload_n C 0 ddM_init_68 rfl rfl ?_
  refine zz_iconst (v := 4) C ddM_init_69 (by decide) ?_
  obtain ⟨q33, hq33, h⟩ := bindN h
  refine zz_newI C ddM_init_70 wd_49 hg (by decide) (by decide) hq33 ⟨by rw [hR]; exact Nat.le_of_ble_eq_true rfl, by rw [hR]; exact Nat.le_of_ble_eq_true rfl⟩ ?_
  refine zz_kn (k1 := 9) (n1 := 4524) (by decide) (by decide) ?_
  obtain ⟨h34, h⟩ := gdN h
  obtain ⟨h35, h⟩ := gdN h
  obtain ⟨q36, hq36, h⟩ := bindN h
  refine zz_putrq C ddM_init_72 fl_M_34 (Or.inr ⟨hn, _, rfl, rfl⟩) rfl (fun _ => rfl) (fun _ => rfl) h34 (of_decide_eq_true h35) hq36 ?_
  refine zz_aload_n C 0 ddM_init_75 rfl rfl ?_
  refine zz_bipush (v := 48) C ddM_init_76 (by decide) ?_
  obtain ⟨q37, hq37, h⟩ := bindN h
  refine zz_newI C ddM_init_78 wd_49 hg (by decide) (by decide) hq37 ⟨by rw [hR]; exact Nat.le_of_ble_eq_true rfl, by rw [hR]; exact Nat.le_of_ble_eq_true rfl⟩ ?_
  refine zz_kn (k1 := 10) (n1 := 4572) (by decide) (by decide) ?_
  obtain ⟨h38, h⟩ := gdN h
  obtain ⟨h39, h⟩ := gdN h
  obtain ⟨q40, hq40, h⟩ := bindN h
  refine zz_putrq C ddM_init_80 fl_M_37 (Or.inr ⟨hn, _, rfl, rfl⟩) rfl (fun _ => rfl) (fun _ => rfl) h38 (of_decide_eq_true h39) hq40 ?_
  refine zz_aload_n C 0 ddM_init_83 rfl rfl ?_
  refine zz_bipush (v := 48) C ddM_init_84 (by decide) ?_
  obtain ⟨q41, hq41, h⟩ := bindN h
  refine zz_newI C ddM_init_86 wd_49 hg (by decide) (by decide) hq41 ⟨by rw [hR]; exact Nat.le_of_ble_eq_true rfl, by rw [hR]; exact Nat.le_of_ble_eq_true rfl⟩ ?_
  refine zz_kn (k1 := 11) (n1 := 4620) (by decide) (by decide) ?_
  obtain ⟨h42, h⟩ := gdN h
  obtain ⟨h43, h⟩ := gdN h
  obtain ⟨q44, hq44, h⟩ := bindN h
  refine zz_putrq C ddM_init_88 fl_M_40 (Or.inr ⟨hn, _, rfl, rfl⟩) rfl (fun _ => rfl) (fun _ => rfl) h42 (of_decide_eq_true h43) hq44 ?_
  refine zz_aload_n C 0 ddM_init_91 rfl rfl ?_
  refine zz_bipush (v := 48) C ddM_init_92 (by decide) ?_
  obtain ⟨q45, hq45, h⟩ := bindN h
  refine zz_newI C ddM_init_94 wd_49 hg (by decide) (by decide) hq45 ⟨by rw [hR]; exact Nat.le_of_ble_eq_true rfl, by rw [hR]; exact Nat.le_of_ble_eq_true rfl⟩ ?_
  refine zz_kn (k1 := 12) (n1 := 4668) (by decide) (by decide) ?_
  obtain ⟨h46, h⟩ := gdN h
  obtain ⟨h47, h⟩ := gdN h
  obtain ⟨q48, hq48, h⟩ := bindN h
  refine zz_putrq C ddM_init_96 fl_M_43 (Or.inr ⟨hn, _, rfl, rfl⟩) rfl (fun _ => rfl) (fun _ => rfl) h46 (of_decide_eq_true h47) hq48 ?_
  refine zz_aload_n C 0 ddM_init_99 rfl rfl ?_
  refine zz_bipush (v := 48) C ddM_init_100 (by decide) ?_
  obtain ⟨q49, hq49, h⟩ := bindN h
  refine zz_newZ C ddM_init_102 wd_1273 hg (by decide) (by decide) hq49 ⟨by rw [hR]; exact Nat.le_of_ble_eq_true rfl, by rw [hR]; exact Nat.le_of_ble_eq_true rfl⟩ ?_
  refine zz_kn (k1 := 13) (n1 := 4716) (by decide) (by decide) ?_
  obtain ⟨h50, h⟩ := gdN h
  obtain ⟨h51, h⟩ := gdN h
  obtain ⟨q52, hq52, h⟩ := bindN h
  refine zz_putrq C ddM_init_104 fl_M_46 (Or.inr ⟨hn, _, rfl, rfl⟩) rfl (fun _ => rfl) (fun _ => rfl) h50 (of_decide_eq_true h51) hq52 ?_
  refine zz_aload_n C 0 ddM_init_107 rfl rfl ?_
  refine zz_iconst (v := 2) C ddM_init_108 (by decide) ?_
  obtain ⟨q53, hq53, h⟩ := bindN h
  refine zz_newI C ddM_init_109 wd_49 hg (by decide) (by decide) hq53 ⟨by rw [hR]; exact Nat.le_of_ble_eq_true rfl, by rw [hR]; exact Nat.le_of_ble_eq_true rfl⟩ ?_
  refine zz_kn (k1 := 14) (n1 := 4718) (by decide) (by decide) ?_
  obtain ⟨h54, h⟩ := gdN h
  obtain ⟨h55, h⟩ := gdN h
  obtain ⟨q56, hq56, h⟩ := bindN h
  refine zz_putrq C ddM_init_111 fl_M_50 (Or.inr ⟨hn, _, rfl, rfl⟩) rfl (fun _ => rfl) (fun _ => rfl) h54 (of_decide_eq_true h55) hq56 ?_
  refine zz_aload_n C 0 ddM_init_114 rfl rfl ?_
  refine zz_ldc C ddM_init_115 wd_1168 rfl ?_
  obtain ⟨q57, hq57, h⟩ := bindN h
  refine zz_newI C ddM_init_117 wd_49 hg (by decide) (by decide) hq57 ⟨by rw [hR]; exact Nat.le_of_ble_eq_true rfl, by rw [hR]; exact Nat.le_of_ble_eq_true rfl⟩ ?_
  refine zz_kn (k1 := 15) (n1 := 160438) (by decide) (by decide) ?_
  obtain ⟨h58, h⟩ := gdN h
  obtain ⟨h59, h⟩ := gdN h
  obtain ⟨q60, hq60, h⟩ := bindN h
  refine zz_putrq C ddM_init_119 fl_M_54 (Or.inr ⟨hn, _, rfl, rfl⟩) rfl (fun _ => rfl) (fun _ => rfl) h58 (of_decide_eq_true h59) hq60 ?_
  refine zz_aload_n C 0 ddM_init_122 rfl rfl ?_
  refine zz_ldc C ddM_init_123 wd_1169 rfl ?_
  obtain ⟨q61, hq61, h⟩ := bindN h
  refine zz_newI C ddM_init_125 wd_49 hg (by decide) (by decide) hq61 ⟨by rw [hR]; exact Nat.le_of_ble_eq_true rfl, by rw [hR]; exact Nat.le_of_ble_eq_true rfl⟩ ?_
  refine zz_kn (k1 := 16) (n1 := 208694) (by decide) (by decide) ?_
  obtain ⟨h62, h⟩ := gdN h
  obtain ⟨h63, h⟩ := gdN h
  obtain ⟨q64, hq64, h⟩ := bindN h
  refine zz_putrq C ddM_init_127 fl_M_58 (Or.inr ⟨hn, _, rfl, rfl⟩) rfl (fun _ => rfl) (fun _ => rfl) h62 (of_decide_eq_true h63) hq64 ?_
  refine zz_aload_n C 0 ddM_init_130 rfl rfl ?_
  refine zz_sipush (v := 3893) C ddM_init_131 (by decide) ?_
  obtain ⟨q65, hq65, h⟩ := bindN h
  refine zz_newI C ddM_init_134 wd_49 hg (by decide) (by decide) hq65 ⟨by rw [hR]; exact Nat.le_of_ble_eq_true rfl, by rw [hR]; exact Nat.le_of_ble_eq_true rfl⟩ ?_
  refine zz_kn (k1 := 17) (n1 := 212587) (by decide) (by decide) ?_
  obtain ⟨h66, h⟩ := gdN h
  obtain ⟨h67, h⟩ := gdN h
  obtain ⟨q68, hq68, h⟩ := bindN h
  refine zz_putrq C ddM_init_136 fl_M_61 (Or.inr ⟨hn, _, rfl, rfl⟩) rfl (fun _ => rfl) (fun _ => rfl) h66 (of_decide_eq_true h67) hq68 ?_
  obtain rfl := Option.some.inj h
  exact zz_vret C E ddM_init_139
