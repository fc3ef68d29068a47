def yA_init : MethodName := ⟨"HomeFreed", "<init>", "()V"⟩
abbrev cA_init : ByteArray := prog_1_method_1_code
theorem my_A_init : MyM yA_init cA_init 2 none 0 := ⟨wd_1, wd_29, ⟨by decide +kernel, by decide +kernel, by decide +kernel⟩, by decide⟩
theorem mi_A_init : Cond.instanceMethod yA_init ∈ lw_tbl := wd_28
def yC_init : MethodName := ⟨"HomeFreed$Chains", "<init>", "(II)V"⟩
abbrev cC_init : ByteArray := prog_2_method_1_code
theorem my_C_init : MyM yC_init cC_init 3 none 2 := ⟨wd_7, wd_128, ⟨by decide +kernel, by decide +kernel, by decide +kernel⟩, by decide⟩
theorem mi_C_init : Cond.instanceMethod yC_init ∈ lw_tbl := wd_127
def yG_init : MethodName := ⟨"HomeFreed$Progress", "<init>", "()V"⟩
abbrev cG_init : ByteArray := prog_7_method_1_code
theorem my_G_init : MyM yG_init cG_init 1 none 0 := ⟨wd_12, wd_234, ⟨by decide +kernel, by decide +kernel, by decide +kernel⟩, by decide⟩
theorem mi_G_init : Cond.instanceMethod yG_init ∈ lw_tbl := wd_233
def yH_init : MethodName := ⟨"HomeFreed$Heap", "<init>", "(LHomeFreed$Rules;)V"⟩
abbrev cH_init : ByteArray := prog_3_method_1_code
theorem my_H_init : MyM yH_init cH_init 2 none 1 := ⟨wd_6, wd_122, ⟨by decide +kernel, by decide +kernel, by decide +kernel⟩, by decide⟩
theorem mi_H_init : Cond.instanceMethod yH_init ∈ lw_tbl := wd_121
def yL_init : MethodName := ⟨"HomeFreed$Log", "<init>", "()V"⟩
abbrev cL_init : ByteArray := prog_4_method_1_code
theorem my_L_init : MyM yL_init cL_init 1 none 0 := ⟨wd_9, wd_156, ⟨by decide +kernel, by decide +kernel, by decide +kernel⟩, by decide⟩
theorem mi_L_init : Cond.instanceMethod yL_init ∈ lw_tbl := wd_155
def yM_init : MethodName := ⟨"HomeFreedModel", "<init>", "()V"⟩
abbrev cM_init : ByteArray := prog_13_method_3_code
theorem my_M_init : MyM yM_init cM_init 1 none 0 := ⟨wd_13, wd_1166, ⟨by decide +kernel, by decide +kernel, by decide +kernel⟩, by decide⟩
theorem mi_M_init : Cond.instanceMethod yM_init ∈ lw_tbl := wd_1165
def yP_init : MethodName := ⟨"HomeFreed$Past", "<init>", "(LHomeFreed$Rules;)V"⟩
abbrev cP_init : ByteArray := prog_6_method_1_code
theorem my_P_init : MyM yP_init cP_init 3 none 1 := ⟨wd_10, wd_205, ⟨by decide +kernel, by decide +kernel, by decide +kernel⟩, by decide⟩
theorem mi_P_init : Cond.instanceMethod yP_init ∈ lw_tbl := wd_204
def yR_init : MethodName := ⟨"HomeFreed$Reader", "<init>", "(LHomeFreed$Tape;)V"⟩
abbrev cR_init : ByteArray := prog_8_method_1_code
theorem my_R_init : MyM yR_init cR_init 2 none 1 := ⟨wd_3, wd_54, ⟨by decide +kernel, by decide +kernel, by decide +kernel⟩, by decide⟩
theorem mi_R_init : Cond.instanceMethod yR_init ∈ lw_tbl := wd_53
def yS_init : MethodName := ⟨"HomeFreed$Script", "<init>", "()V"⟩
abbrev cS_init : ByteArray := prog_10_method_1_code
theorem my_S_init : MyM yS_init cS_init 1 none 0 := ⟨wd_5, wd_94, ⟨by decide +kernel, by decide +kernel, by decide +kernel⟩, by decide⟩
theorem mi_S_init : Cond.instanceMethod yS_init ∈ lw_tbl := wd_93
def yT_init : MethodName := ⟨"HomeFreed$Tape", "<init>", "()V"⟩
abbrev cT_init : ByteArray := prog_11_method_1_code
theorem my_T_init : MyM yT_init cT_init 1 none 0 := ⟨wd_2, wd_37, ⟨by decide +kernel, by decide +kernel, by decide +kernel⟩, by decide⟩
theorem mi_T_init : Cond.instanceMethod yT_init ∈ lw_tbl := wd_36
def yU_init : MethodName := ⟨"HomeFreed$Rules", "<init>", "()V"⟩
abbrev cU_init : ByteArray := prog_9_method_1_code
theorem my_U_init : MyM yU_init cU_init 1 none 0 := ⟨wd_4, wd_72, ⟨by decide +kernel, by decide +kernel, by decide +kernel⟩, by decide⟩
theorem mi_U_init : Cond.instanceMethod yU_init ∈ lw_tbl := wd_71
def yX_init : MethodName := ⟨"HomeFreed$Mixer", "<init>", "(LHomeFreed$Rules;)V"⟩
abbrev cX_init : ByteArray := prog_5_method_1_code
theorem my_X_init : MyM yX_init cX_init 3 none 1 := ⟨wd_11, wd_225, ⟨by decide +kernel, by decide +kernel, by decide +kernel⟩, by decide⟩
theorem mi_X_init : Cond.instanceMethod yX_init ∈ lw_tbl := wd_224
set_option maxRecDepth 100000 in
def fT_init (v0 : Nat) (M : Mem) : Option (Mem) :=
  (alF M 100 (Int32.toNatClampNeg 240)).bind fun q1 => gd (obM q1 v0 9 2) <| gd (decide ((cnM q1) ≠ 0)) <| some (siM (srM q1 v0 0 (cnM q1)) v0 1 0)
set_option maxRecDepth 100000 in
def fR_init (v0 : Nat) (v1 : Nat) (M : Mem) : Option (Mem) :=
  gd (obM M v0 6 3) <| gd (decide (v1 ≠ 0)) <| some (siM (siM (srM M v0 0 v1) v0 1 0) v0 2 ((-1)))
set_option maxRecDepth 100000 in
def fU_init (v0 : Nat) (M : Mem) : Option (Mem) :=
  (alF M 100 (Int32.toNatClampNeg 5)).bind fun q1 => gd (obM q1 v0 7 3) <| gd (decide ((cnM q1) ≠ 0)) <| (alF (srM q1 v0 0 (cnM q1)) 100 (Int32.toNatClampNeg 6)).bind fun q4 => gd (obM q4 v0 7 3) <| gd (decide ((cnM q4) ≠ 0)) <| some (siM (srM q4 v0 1 (cnM q4)) v0 2 0)
set_option maxRecDepth 100000 in
def fS_init (v0 : Nat) (M : Mem) : Option (Mem) :=
  (alF M 100 (Int32.toNatClampNeg 24)).bind fun q1 => gd (obM q1 v0 8 4) <| gd (decide ((cnM q1) ≠ 0)) <| (alF (srM q1 v0 0 (cnM q1)) 100 (Int32.toNatClampNeg 24)).bind fun q4 => gd (obM q4 v0 8 4) <| gd (decide ((cnM q4) ≠ 0)) <| (alF (srM q4 v0 1 (cnM q4)) 100 (Int32.toNatClampNeg 24)).bind fun q7 => gd (obM q7 v0 8 4) <| gd (decide ((cnM q7) ≠ 0)) <| some (siM (srM q7 v0 2 (cnM q7)) v0 3 0)
set_option maxRecDepth 100000 in
def fC_init (v0 : Nat) (v1 : Int32) (v2 : Int32) (M : Mem) : Option (Mem) :=
  gd (decide (0 ≤ (Int32.toInt v1))) <| gd (decide (Int32.toNatClampNeg v1 * 4 ≤ 536870912)) <| (alF M 100 (Int32.toNatClampNeg v1)).bind fun q3 => gd (obM q3 v0 0 4) <| gd (decide ((cnM q3) ≠ 0)) <| gd (decide (0 ≤ (Int32.toInt v1))) <| gd (decide (Int32.toNatClampNeg v1 * 4 ≤ 536870912)) <| (alF (srM q3 v0 0 (cnM q3)) 100 (Int32.toNatClampNeg v1)).bind fun q8 => gd (obM q8 v0 0 4) <| gd (decide ((cnM q8) ≠ 0)) <| gd (decide (0 ≤ (Int32.toInt v2))) <| gd (decide (Int32.toNatClampNeg v2 * 4 ≤ 536870912)) <| (alF (srM q8 v0 1 (cnM q8)) 100 (Int32.toNatClampNeg v2)).bind fun q13 => gd (obM q13 v0 0 4) <| gd (decide ((cnM q13) ≠ 0)) <| gd (decide (0 ≤ (Int32.toInt v2))) <| gd (decide (Int32.toNatClampNeg v2 * 4 ≤ 536870912)) <| (alF (srM q13 v0 2 (cnM q13)) 100 (Int32.toNatClampNeg v2)).bind fun q18 => gd (obM q18 v0 0 4) <| gd (decide ((cnM q18) ≠ 0)) <| gd (decide (grM (srM q18 v0 3 (cnM q18)) v0 0 ≠ 0)) <| (fY_fill (grM (srM q18 v0 3 (cnM q18)) v0 0) ((-1)) (srM q18 v0 3 (cnM q18))).bind fun q22 => gd (obM q22 v0 0 4) <| gd (decide (grM q22 v0 2 ≠ 0)) <| (fY_fill (grM q22 v0 2) ((-1)) q22).bind fun q25 => gd (obM q25 v0 0 4) <| gd (decide (grM q25 v0 3 ≠ 0)) <| (fY_fill (grM q25 v0 3) ((-1)) q25).bind fun q28 => some q28
set_option maxRecDepth 100000 in
def fL_init (v0 : Nat) (M : Mem) : Option (Mem) :=
  (alF M 100 (Int32.toNatClampNeg 60)).bind fun q1 => gd (obM q1 v0 2 2) <| gd (decide ((cnM q1) ≠ 0)) <| some (siM (srM q1 v0 0 (cnM q1)) v0 1 0)
set_option maxRecDepth 100000 in
def fH_init (v0 : Nat) (v1 : Nat) (M : Mem) : Option (Mem) :=
  (alF M 100 (Int32.toNatClampNeg 16)).bind fun q1 => gd (obM q1 v0 1 9) <| gd (decide ((cnM q1) ≠ 0)) <| (alF (srM q1 v0 1 (cnM q1)) 100 (Int32.toNatClampNeg 16)).bind fun q4 => gd (obM q4 v0 1 9) <| gd (decide ((cnM q4) ≠ 0)) <| (alF (srM q4 v0 2 (cnM q4)) 100 (Int32.toNatClampNeg 16)).bind fun q7 => gd (obM q7 v0 1 9) <| gd (decide ((cnM q7) ≠ 0)) <| (alF (srM q7 v0 3 (cnM q7)) 0 4).bind fun q10 => (fC_init (cnM q10) 24 16 q10).bind fun q11 => gd (obM q11 v0 1 9) <| gd (decide ((cnM q10) ≠ 0)) <| (alF (srM q11 v0 4 (cnM q10)) 0 4).bind fun q14 => (fC_init (cnM q14) 112 640 q14).bind fun q15 => gd (obM q15 v0 1 9) <| gd (decide ((cnM q14) ≠ 0)) <| (alF (srM q15 v0 5 (cnM q14)) 100 (Int32.toNatClampNeg 4)).bind fun q18 => gd (obM q18 v0 1 9) <| gd (decide ((cnM q18) ≠ 0)) <| (alF (srM q18 v0 6 (cnM q18)) 100 (Int32.toNatClampNeg 4)).bind fun q21 => gd (obM q21 v0 1 9) <| gd (decide ((cnM q21) ≠ 0)) <| (alF (srM q21 v0 7 (cnM q21)) 2 2).bind fun q24 => (fL_init (cnM q24) q24).bind fun q25 => gd (obM q25 v0 1 9) <| gd (decide ((cnM q24) ≠ 0)) <| gd (decide (v1 ≠ 0)) <| gd (decide (grM (srM (srM q25 v0 8 (cnM q24)) v0 0 v1) v0 1 ≠ 0)) <| (fY_fill (grM (srM (srM q25 v0 8 (cnM q24)) v0 0 v1) v0 1) ((-1)) (srM (srM q25 v0 8 (cnM q24)) v0 0 v1)).bind fun q30 => gd (obM q30 v0 1 9) <| gd (decide (grM q30 v0 2 ≠ 0)) <| (fY_fill (grM q30 v0 2) ((-1)) q30).bind fun q33 => gd (obM q33 v0 1 9) <| gd (decide (grM q33 v0 6 ≠ 0)) <| (fY_fill (grM q33 v0 6) 1 q33).bind fun q36 => some q36
set_option maxRecDepth 100000 in
def fP_init (v0 : Nat) (v1 : Nat) (M : Mem) : Option (Mem) :=
  (alF M 103 (Int32.toNatClampNeg 40)).bind fun q1 => gd (obM q1 v0 4 3) <| gd (decide ((cnM q1) ≠ 0)) <| gd (decide (grM (srM q1 v0 0 (cnM q1)) v0 0 ≠ 0)) <| (alF (srM q1 v0 0 (cnM q1)) 1 9).bind fun q5 => (fH_init (cnM q5) v1 q5).bind fun q6 => gd (wrT 103 q6 (grM (srM q1 v0 0 (cnM q1)) v0 0) 0) <| gd (obM q6 (cnM q5) 1 9) <| gd (obM q6 v0 4 3) <| gd (decide (grM (srM q6 (grM (srM q1 v0 0 (cnM q1)) v0 0) (Int32.toNatClampNeg 0) (cnM q5)) v0 0 ≠ 0)) <| (alF (srM q6 (grM (srM q1 v0 0 (cnM q1)) v0 0) (Int32.toNatClampNeg 0) (cnM q5)) 1 9).bind fun q11 => (fH_init (cnM q11) v1 q11).bind fun q12 => gd (wrT 103 q12 (grM (srM q6 (grM (srM q1 v0 0 (cnM q1)) v0 0) (Int32.toNatClampNeg 0) (cnM q5)) v0 0) 1) <| gd (obM q12 (cnM q11) 1 9) <| gd (obM q12 v0 4 3) <| gd (decide (grM (srM q12 (grM (srM q6 (grM (srM q1 v0 0 (cnM q1)) v0 0) (Int32.toNatClampNeg 0) (cnM q5)) v0 0) (Int32.toNatClampNeg 1) (cnM q11)) v0 0 ≠ 0)) <| (alF (srM q12 (grM (srM q6 (grM (srM q1 v0 0 (cnM q1)) v0 0) (Int32.toNatClampNeg 0) (cnM q5)) v0 0) (Int32.toNatClampNeg 1) (cnM q11)) 1 9).bind fun q17 => (fH_init (cnM q17) v1 q17).bind fun q18 => gd (wrT 103 q18 (grM (srM q12 (grM (srM q6 (grM (srM q1 v0 0 (cnM q1)) v0 0) (Int32.toNatClampNeg 0) (cnM q5)) v0 0) (Int32.toNatClampNeg 1) (cnM q11)) v0 0) 2) <| gd (obM q18 (cnM q17) 1 9) <| gd (obM q18 v0 4 3) <| gd (decide (grM (srM q18 (grM (srM q12 (grM (srM q6 (grM (srM q1 v0 0 (cnM q1)) v0 0) (Int32.toNatClampNeg 0) (cnM q5)) v0 0) (Int32.toNatClampNeg 1) (cnM q11)) v0 0) (Int32.toNatClampNeg 2) (cnM q17)) v0 0 ≠ 0)) <| (alF (srM q18 (grM (srM q12 (grM (srM q6 (grM (srM q1 v0 0 (cnM q1)) v0 0) (Int32.toNatClampNeg 0) (cnM q5)) v0 0) (Int32.toNatClampNeg 1) (cnM q11)) v0 0) (Int32.toNatClampNeg 2) (cnM q17)) 1 9).bind fun q23 => (fH_init (cnM q23) v1 q23).bind fun q24 => gd (wrT 103 q24 (grM (srM q18 (grM (srM q12 (grM (srM q6 (grM (srM q1 v0 0 (cnM q1)) v0 0) (Int32.toNatClampNeg 0) (cnM q5)) v0 0) (Int32.toNatClampNeg 1) (cnM q11)) v0 0) (Int32.toNatClampNeg 2) (cnM q17)) v0 0) 3) <| gd (obM q24 (cnM q23) 1 9) <| gd (obM q24 v0 4 3) <| gd (decide (grM (srM q24 (grM (srM q18 (grM (srM q12 (grM (srM q6 (grM (srM q1 v0 0 (cnM q1)) v0 0) (Int32.toNatClampNeg 0) (cnM q5)) v0 0) (Int32.toNatClampNeg 1) (cnM q11)) v0 0) (Int32.toNatClampNeg 2) (cnM q17)) v0 0) (Int32.toNatClampNeg 3) (cnM q23)) v0 0 ≠ 0)) <| (alF (srM q24 (grM (srM q18 (grM (srM q12 (grM (srM q6 (grM (srM q1 v0 0 (cnM q1)) v0 0) (Int32.toNatClampNeg 0) (cnM q5)) v0 0) (Int32.toNatClampNeg 1) (cnM q11)) v0 0) (Int32.toNatClampNeg 2) (cnM q17)) v0 0) (Int32.toNatClampNeg 3) (cnM q23)) 1 9).bind fun q29 => (fH_init (cnM q29) v1 q29).bind fun q30 => gd (wrT 103 q30 (grM (srM q24 (grM (srM q18 (grM (srM q12 (grM (srM q6 (grM (srM q1 v0 0 (cnM q1)) v0 0) (Int32.toNatClampNeg 0) (cnM q5)) v0 0) (Int32.toNatClampNeg 1) (cnM q11)) v0 0) (Int32.toNatClampNeg 2) (cnM q17)) v0 0) (Int32.toNatClampNeg 3) (cnM q23)) v0 0) 4) <| gd (obM q30 (cnM q29) 1 9) <| gd (obM q30 v0 4 3) <| gd (decide (grM (srM q30 (grM (srM q24 (grM (srM q18 (grM (srM q12 (grM (srM q6 (grM (srM q1 v0 0 (cnM q1)) v0 0) (Int32.toNatClampNeg 0) (cnM q5)) v0 0) (Int32.toNatClampNeg 1) (cnM q11)) v0 0) (Int32.toNatClampNeg 2) (cnM q17)) v0 0) (Int32.toNatClampNeg 3) (cnM q23)) v0 0) (Int32.toNatClampNeg 4) (cnM q29)) v0 0 ≠ 0)) <| (alF (srM q30 (grM (srM q24 (grM (srM q18 (grM (srM q12 (grM (srM q6 (grM (srM q1 v0 0 (cnM q1)) v0 0) (Int32.toNatClampNeg 0) (cnM q5)) v0 0) (Int32.toNatClampNeg 1) (cnM q11)) v0 0) (Int32.toNatClampNeg 2) (cnM q17)) v0 0) (Int32.toNatClampNeg 3) (cnM q23)) v0 0) (Int32.toNatClampNeg 4) (cnM q29)) 1 9).bind fun q35 => (fH_init (cnM q35) v1 q35).bind fun q36 => gd (wrT 103 q36 (grM (srM q30 (grM (srM q24 (grM (srM q18 (grM (srM q12 (grM (srM q6 (grM (srM q1 v0 0 (cnM q1)) v0 0) (Int32.toNatClampNeg 0) (cnM q5)) v0 0) (Int32.toNatClampNeg 1) (cnM q11)) v0 0) (Int32.toNatClampNeg 2) (cnM q17)) v0 0) (Int32.toNatClampNeg 3) (cnM q23)) v0 0) (Int32.toNatClampNeg 4) (cnM q29)) v0 0) 5) <| gd (obM q36 (cnM q35) 1 9) <| gd (obM q36 v0 4 3) <| gd (decide (grM (srM q36 (grM (srM q30 (grM (srM q24 (grM (srM q18 (grM (srM q12 (grM (srM q6 (grM (srM q1 v0 0 (cnM q1)) v0 0) (Int32.toNatClampNeg 0) (cnM q5)) v0 0) (Int32.toNatClampNeg 1) (cnM q11)) v0 0) (Int32.toNatClampNeg 2) (cnM q17)) v0 0) (Int32.toNatClampNeg 3) (cnM q23)) v0 0) (Int32.toNatClampNeg 4) (cnM q29)) v0 0) (Int32.toNatClampNeg 5) (cnM q35)) v0 0 ≠ 0)) <| (alF (srM q36 (grM (srM q30 (grM (srM q24 (grM (srM q18 (grM (srM q12 (grM (srM q6 (grM (srM q1 v0 0 (cnM q1)) v0 0) (Int32.toNatClampNeg 0) (cnM q5)) v0 0) (Int32.toNatClampNeg 1) (cnM q11)) v0 0) (Int32.toNatClampNeg 2) (cnM q17)) v0 0) (Int32.toNatClampNeg 3) (cnM q23)) v0 0) (Int32.toNatClampNeg 4) (cnM q29)) v0 0) (Int32.toNatClampNeg 5) (cnM q35)) 1 9).bind fun q41 => (fH_init (cnM q41) v1 q41).bind fun q42 => gd (wrT 103 q42 (grM (srM q36 (grM (srM q30 (grM (srM q24 (grM (srM q18 (grM (srM q12 (grM (srM q6 (grM (srM q1 v0 0 (cnM q1)) v0 0) (Int32.toNatClampNeg 0) (cnM q5)) v0 0) (Int32.toNatClampNeg 1) (cnM q11)) v0 0) (Int32.toNatClampNeg 2) (cnM q17)) v0 0) (Int32.toNatClampNeg 3) (cnM q23)) v0 0) (Int32.toNatClampNeg 4) (cnM q29)) v0 0) (Int32.toNatClampNeg 5) (cnM q35)) v0 0) 6) <| gd (obM q42 (cnM q41) 1 9) <| gd (obM q42 v0 4 3) <| gd (decide (grM (srM q42 (grM (srM q36 (grM (srM q30 (grM (srM q24 (grM (srM q18 (grM (srM q12 (grM (srM q6 (grM (srM q1 v0 0 (cnM q1)) v0 0) (Int32.toNatClampNeg 0) (cnM q5)) v0 0) (Int32.toNatClampNeg 1) (cnM q11)) v0 0) (Int32.toNatClampNeg 2) (cnM q17)) v0 0) (Int32.toNatClampNeg 3) (cnM q23)) v0 0) (Int32.toNatClampNeg 4) (cnM q29)) v0 0) (Int32.toNatClampNeg 5) (cnM q35)) v0 0) (Int32.toNatClampNeg 6) (cnM q41)) v0 0 ≠ 0)) <| (alF (srM q42 (grM (srM q36 (grM (srM q30 (grM (srM q24 (grM (srM q18 (grM (srM q12 (grM (srM q6 (grM (srM q1 v0 0 (cnM q1)) v0 0) (Int32.toNatClampNeg 0) (cnM q5)) v0 0) (Int32.toNatClampNeg 1) (cnM q11)) v0 0) (Int32.toNatClampNeg 2) (cnM q17)) v0 0) (Int32.toNatClampNeg 3) (cnM q23)) v0 0) (Int32.toNatClampNeg 4) (cnM q29)) v0 0) (Int32.toNatClampNeg 5) (cnM q35)) v0 0) (Int32.toNatClampNeg 6) (cnM q41)) 1 9).bind fun q47 => (fH_init (cnM q47) v1 q47).bind fun q48 => gd (wrT 103 q48 (grM (srM q42 (grM (srM q36 (grM (srM q30 (grM (srM q24 (grM (srM q18 (grM (srM q12 (grM (srM q6 (grM (srM q1 v0 0 (cnM q1)) v0 0) (Int32.toNatClampNeg 0) (cnM q5)) v0 0) (Int32.toNatClampNeg 1) (cnM q11)) v0 0) (Int32.toNatClampNeg 2) (cnM q17)) v0 0) (Int32.toNatClampNeg 3) (cnM q23)) v0 0) (Int32.toNatClampNeg 4) (cnM q29)) v0 0) (Int32.toNatClampNeg 5) (cnM q35)) v0 0) (Int32.toNatClampNeg 6) (cnM q41)) v0 0) 7) <| gd (obM q48 (cnM q47) 1 9) <| gd (obM q48 v0 4 3) <| gd (decide (grM (srM q48 (grM (srM q42 (grM (srM q36 (grM (srM q30 (grM (srM q24 (grM (srM q18 (grM (srM q12 (grM (srM q6 (grM (srM q1 v0 0 (cnM q1)) v0 0) (Int32.toNatClampNeg 0) (cnM q5)) v0 0) (Int32.toNatClampNeg 1) (cnM q11)) v0 0) (Int32.toNatClampNeg 2) (cnM q17)) v0 0) (Int32.toNatClampNeg 3) (cnM q23)) v0 0) (Int32.toNatClampNeg 4) (cnM q29)) v0 0) (Int32.toNatClampNeg 5) (cnM q35)) v0 0) (Int32.toNatClampNeg 6) (cnM q41)) v0 0) (Int32.toNatClampNeg 7) (cnM q47)) v0 0 ≠ 0)) <| (alF (srM q48 (grM (srM q42 (grM (srM q36 (grM (srM q30 (grM (srM q24 (grM (srM q18 (grM (srM q12 (grM (srM q6 (grM (srM q1 v0 0 (cnM q1)) v0 0) (Int32.toNatClampNeg 0) (cnM q5)) v0 0) (Int32.toNatClampNeg 1) (cnM q11)) v0 0) (Int32.toNatClampNeg 2) (cnM q17)) v0 0) (Int32.toNatClampNeg 3) (cnM q23)) v0 0) (Int32.toNatClampNeg 4) (cnM q29)) v0 0) (Int32.toNatClampNeg 5) (cnM q35)) v0 0) (Int32.toNatClampNeg 6) (cnM q41)) v0 0) (Int32.toNatClampNeg 7) (cnM q47)) 1 9).bind fun q53 => (fH_init (cnM q53) v1 q53).bind fun q54 => gd (wrT 103 q54 (grM (srM q48 (grM (srM q42 (grM (srM q36 (grM (srM q30 (grM (srM q24 (grM (srM q18 (grM (srM q12 (grM (srM q6 (grM (srM q1 v0 0 (cnM q1)) v0 0) (Int32.toNatClampNeg 0) (cnM q5)) v0 0) (Int32.toNatClampNeg 1) (cnM q11)) v0 0) (Int32.toNatClampNeg 2) (cnM q17)) v0 0) (Int32.toNatClampNeg 3) (cnM q23)) v0 0) (Int32.toNatClampNeg 4) (cnM q29)) v0 0) (Int32.toNatClampNeg 5) (cnM q35)) v0 0) (Int32.toNatClampNeg 6) (cnM q41)) v0 0) (Int32.toNatClampNeg 7) (cnM q47)) v0 0) 8) <| gd (obM q54 (cnM q53) 1 9) <| gd (obM q54 v0 4 3) <| gd (decide (grM (srM q54 (grM (srM q48 (grM (srM q42 (grM (srM q36 (grM (srM q30 (grM (srM q24 (grM (srM q18 (grM (srM q12 (grM (srM q6 (grM (srM q1 v0 0 (cnM q1)) v0 0) (Int32.toNatClampNeg 0) (cnM q5)) v0 0) (Int32.toNatClampNeg 1) (cnM q11)) v0 0) (Int32.toNatClampNeg 2) (cnM q17)) v0 0) (Int32.toNatClampNeg 3) (cnM q23)) v0 0) (Int32.toNatClampNeg 4) (cnM q29)) v0 0) (Int32.toNatClampNeg 5) (cnM q35)) v0 0) (Int32.toNatClampNeg 6) (cnM q41)) v0 0) (Int32.toNatClampNeg 7) (cnM q47)) v0 0) (Int32.toNatClampNeg 8) (cnM q53)) v0 0 ≠ 0)) <| (alF (srM q54 (grM (srM q48 (grM (srM q42 (grM (srM q36 (grM (srM q30 (grM (srM q24 (grM (srM q18 (grM (srM q12 (grM (srM q6 (grM (srM q1 v0 0 (cnM q1)) v0 0) (Int32.toNatClampNeg 0) (cnM q5)) v0 0) (Int32.toNatClampNeg 1) (cnM q11)) v0 0) (Int32.toNatClampNeg 2) (cnM q17)) v0 0) (Int32.toNatClampNeg 3) (cnM q23)) v0 0) (Int32.toNatClampNeg 4) (cnM q29)) v0 0) (Int32.toNatClampNeg 5) (cnM q35)) v0 0) (Int32.toNatClampNeg 6) (cnM q41)) v0 0) (Int32.toNatClampNeg 7) (cnM q47)) v0 0) (Int32.toNatClampNeg 8) (cnM q53)) 1 9).bind fun q59 => (fH_init (cnM q59) v1 q59).bind fun q60 => gd (wrT 103 q60 (grM (srM q54 (grM (srM q48 (grM (srM q42 (grM (srM q36 (grM (srM q30 (grM (srM q24 (grM (srM q18 (grM (srM q12 (grM (srM q6 (grM (srM q1 v0 0 (cnM q1)) v0 0) (Int32.toNatClampNeg 0) (cnM q5)) v0 0) (Int32.toNatClampNeg 1) (cnM q11)) v0 0) (Int32.toNatClampNeg 2) (cnM q17)) v0 0) (Int32.toNatClampNeg 3) (cnM q23)) v0 0) (Int32.toNatClampNeg 4) (cnM q29)) v0 0) (Int32.toNatClampNeg 5) (cnM q35)) v0 0) (Int32.toNatClampNeg 6) (cnM q41)) v0 0) (Int32.toNatClampNeg 7) (cnM q47)) v0 0) (Int32.toNatClampNeg 8) (cnM q53)) v0 0) 9) <| gd (obM q60 (cnM q59) 1 9) <| gd (obM q60 v0 4 3) <| gd (decide (grM (srM q60 (grM (srM q54 (grM (srM q48 (grM (srM q42 (grM (srM q36 (grM (srM q30 (grM (srM q24 (grM (srM q18 (grM (srM q12 (grM (srM q6 (grM (srM q1 v0 0 (cnM q1)) v0 0) (Int32.toNatClampNeg 0) (cnM q5)) v0 0) (Int32.toNatClampNeg 1) (cnM q11)) v0 0) (Int32.toNatClampNeg 2) (cnM q17)) v0 0) (Int32.toNatClampNeg 3) (cnM q23)) v0 0) (Int32.toNatClampNeg 4) (cnM q29)) v0 0) (Int32.toNatClampNeg 5) (cnM q35)) v0 0) (Int32.toNatClampNeg 6) (cnM q41)) v0 0) (Int32.toNatClampNeg 7) (cnM q47)) v0 0) (Int32.toNatClampNeg 8) (cnM q53)) v0 0) (Int32.toNatClampNeg 9) (cnM q59)) v0 0 ≠ 0)) <| (alF (srM q60 (grM (srM q54 (grM (srM q48 (grM (srM q42 (grM (srM q36 (grM (srM q30 (grM (srM q24 (grM (srM q18 (grM (srM q12 (grM (srM q6 (grM (srM q1 v0 0 (cnM q1)) v0 0) (Int32.toNatClampNeg 0) (cnM q5)) v0 0) (Int32.toNatClampNeg 1) (cnM q11)) v0 0) (Int32.toNatClampNeg 2) (cnM q17)) v0 0) (Int32.toNatClampNeg 3) (cnM q23)) v0 0) (Int32.toNatClampNeg 4) (cnM q29)) v0 0) (Int32.toNatClampNeg 5) (cnM q35)) v0 0) (Int32.toNatClampNeg 6) (cnM q41)) v0 0) (Int32.toNatClampNeg 7) (cnM q47)) v0 0) (Int32.toNatClampNeg 8) (cnM q53)) v0 0) (Int32.toNatClampNeg 9) (cnM q59)) 1 9).bind fun q65 => (fH_init (cnM q65) v1 q65).bind fun q66 => gd (wrT 103 q66 (grM (srM q60 (grM (srM q54 (grM (srM q48 (grM (srM q42 (grM (srM q36 (grM (srM q30 (grM (srM q24 (grM (srM q18 (grM (srM q12 (grM (srM q6 (grM (srM q1 v0 0 (cnM q1)) v0 0) (Int32.toNatClampNeg 0) (cnM q5)) v0 0) (Int32.toNatClampNeg 1) (cnM q11)) v0 0) (Int32.toNatClampNeg 2) (cnM q17)) v0 0) (Int32.toNatClampNeg 3) (cnM q23)) v0 0) (Int32.toNatClampNeg 4) (cnM q29)) v0 0) (Int32.toNatClampNeg 5) (cnM q35)) v0 0) (Int32.toNatClampNeg 6) (cnM q41)) v0 0) (Int32.toNatClampNeg 7) (cnM q47)) v0 0) (Int32.toNatClampNeg 8) (cnM q53)) v0 0) (Int32.toNatClampNeg 9) (cnM q59)) v0 0) 10) <| gd (obM q66 (cnM q65) 1 9) <| gd (obM q66 v0 4 3) <| gd (decide (grM (srM q66 (grM (srM q60 (grM (srM q54 (grM (srM q48 (grM (srM q42 (grM (srM q36 (grM (srM q30 (grM (srM q24 (grM (srM q18 (grM (srM q12 (grM (srM q6 (grM (srM q1 v0 0 (cnM q1)) v0 0) (Int32.toNatClampNeg 0) (cnM q5)) v0 0) (Int32.toNatClampNeg 1) (cnM q11)) v0 0) (Int32.toNatClampNeg 2) (cnM q17)) v0 0) (Int32.toNatClampNeg 3) (cnM q23)) v0 0) (Int32.toNatClampNeg 4) (cnM q29)) v0 0) (Int32.toNatClampNeg 5) (cnM q35)) v0 0) (Int32.toNatClampNeg 6) (cnM q41)) v0 0) (Int32.toNatClampNeg 7) (cnM q47)) v0 0) (Int32.toNatClampNeg 8) (cnM q53)) v0 0) (Int32.toNatClampNeg 9) (cnM q59)) v0 0) (Int32.toNatClampNeg 10) (cnM q65)) v0 0 ≠ 0)) <| (alF (srM q66 (grM (srM q60 (grM (srM q54 (grM (srM q48 (grM (srM q42 (grM (srM q36 (grM (srM q30 (grM (srM q24 (grM (srM q18 (grM (srM q12 (grM (srM q6 (grM (srM q1 v0 0 (cnM q1)) v0 0) (Int32.toNatClampNeg 0) (cnM q5)) v0 0) (Int32.toNatClampNeg 1) (cnM q11)) v0 0) (Int32.toNatClampNeg 2) (cnM q17)) v0 0) (Int32.toNatClampNeg 3) (cnM q23)) v0 0) (Int32.toNatClampNeg 4) (cnM q29)) v0 0) (Int32.toNatClampNeg 5) (cnM q35)) v0 0) (Int32.toNatClampNeg 6) (cnM q41)) v0 0) (Int32.toNatClampNeg 7) (cnM q47)) v0 0) (Int32.toNatClampNeg 8) (cnM q53)) v0 0) (Int32.toNatClampNeg 9) (cnM q59)) v0 0) (Int32.toNatClampNeg 10) (cnM q65)) 1 9).bind fun q71 => (fH_init (cnM q71) v1 q71).bind fun q72 => gd (wrT 103 q72 (grM (srM q66 (grM (srM q60 (grM (srM q54 (grM (srM q48 (grM (srM q42 (grM (srM q36 (grM (srM q30 (grM (srM q24 (grM (srM q18 (grM (srM q12 (grM (srM q6 (grM (srM q1 v0 0 (cnM q1)) v0 0) (Int32.toNatClampNeg 0) (cnM q5)) v0 0) (Int32.toNatClampNeg 1) (cnM q11)) v0 0) (Int32.toNatClampNeg 2) (cnM q17)) v0 0) (Int32.toNatClampNeg 3) (cnM q23)) v0 0) (Int32.toNatClampNeg 4) (cnM q29)) v0 0) (Int32.toNatClampNeg 5) (cnM q35)) v0 0) (Int32.toNatClampNeg 6) (cnM q41)) v0 0) (Int32.toNatClampNeg 7) (cnM q47)) v0 0) (Int32.toNatClampNeg 8) (cnM q53)) v0 0) (Int32.toNatClampNeg 9) (cnM q59)) v0 0) (Int32.toNatClampNeg 10) (cnM q65)) v0 0) 11) <| gd (obM q72 (cnM q71) 1 9) <| gd (obM q72 v0 4 3) <| gd (decide (grM (srM q72 (grM (srM q66 (grM (srM q60 (grM (srM q54 (grM (srM q48 (grM (srM q42 (grM (srM q36 (grM (srM q30 (grM (srM q24 (grM (srM q18 (grM (srM q12 (grM (srM q6 (grM (srM q1 v0 0 (cnM q1)) v0 0) (Int32.toNatClampNeg 0) (cnM q5)) v0 0) (Int32.toNatClampNeg 1) (cnM q11)) v0 0) (Int32.toNatClampNeg 2) (cnM q17)) v0 0) (Int32.toNatClampNeg 3) (cnM q23)) v0 0) (Int32.toNatClampNeg 4) (cnM q29)) v0 0) (Int32.toNatClampNeg 5) (cnM q35)) v0 0) (Int32.toNatClampNeg 6) (cnM q41)) v0 0) (Int32.toNatClampNeg 7) (cnM q47)) v0 0) (Int32.toNatClampNeg 8) (cnM q53)) v0 0) (Int32.toNatClampNeg 9) (cnM q59)) v0 0) (Int32.toNatClampNeg 10) (cnM q65)) v0 0) (Int32.toNatClampNeg 11) (cnM q71)) v0 0 ≠ 0)) <| (alF (srM q72 (grM (srM q66 (grM (srM q60 (grM (srM q54 (grM (srM q48 (grM (srM q42 (grM (srM q36 (grM (srM q30 (grM (srM q24 (grM (srM q18 (grM (srM q12 (grM (srM q6 (grM (srM q1 v0 0 (cnM q1)) v0 0) (Int32.toNatClampNeg 0) (cnM q5)) v0 0) (Int32.toNatClampNeg 1) (cnM q11)) v0 0) (Int32.toNatClampNeg 2) (cnM q17)) v0 0) (Int32.toNatClampNeg 3) (cnM q23)) v0 0) (Int32.toNatClampNeg 4) (cnM q29)) v0 0) (Int32.toNatClampNeg 5) (cnM q35)) v0 0) (Int32.toNatClampNeg 6) (cnM q41)) v0 0) (Int32.toNatClampNeg 7) (cnM q47)) v0 0) (Int32.toNatClampNeg 8) (cnM q53)) v0 0) (Int32.toNatClampNeg 9) (cnM q59)) v0 0) (Int32.toNatClampNeg 10) (cnM q65)) v0 0) (Int32.toNatClampNeg 11) (cnM q71)) 1 9).bind fun q77 => (fH_init (cnM q77) v1 q77).bind fun q78 => gd (wrT 103 q78 (grM (srM q72 (grM (srM q66 (grM (srM q60 (grM (srM q54 (grM (srM q48 (grM (srM q42 (grM (srM q36 (grM (srM q30 (grM (srM q24 (grM (srM q18 (grM (srM q12 (grM (srM q6 (grM (srM q1 v0 0 (cnM q1)) v0 0) (Int32.toNatClampNeg 0) (cnM q5)) v0 0) (Int32.toNatClampNeg 1) (cnM q11)) v0 0) (Int32.toNatClampNeg 2) (cnM q17)) v0 0) (Int32.toNatClampNeg 3) (cnM q23)) v0 0) (Int32.toNatClampNeg 4) (cnM q29)) v0 0) (Int32.toNatClampNeg 5) (cnM q35)) v0 0) (Int32.toNatClampNeg 6) (cnM q41)) v0 0) (Int32.toNatClampNeg 7) (cnM q47)) v0 0) (Int32.toNatClampNeg 8) (cnM q53)) v0 0) (Int32.toNatClampNeg 9) (cnM q59)) v0 0) (Int32.toNatClampNeg 10) (cnM q65)) v0 0) (Int32.toNatClampNeg 11) (cnM q71)) v0 0) 12) <| gd (obM q78 (cnM q77) 1 9) <| gd (obM q78 v0 4 3) <| gd (decide (grM (srM q78 (grM (srM q72 (grM (srM q66 (grM (srM q60 (grM (srM q54 (grM (srM q48 (grM (srM q42 (grM (srM q36 (grM (srM q30 (grM (srM q24 (grM (srM q18 (grM (srM q12 (grM (srM q6 (grM (srM q1 v0 0 (cnM q1)) v0 0) (Int32.toNatClampNeg 0) (cnM q5)) v0 0) (Int32.toNatClampNeg 1) (cnM q11)) v0 0) (Int32.toNatClampNeg 2) (cnM q17)) v0 0) (Int32.toNatClampNeg 3) (cnM q23)) v0 0) (Int32.toNatClampNeg 4) (cnM q29)) v0 0) (Int32.toNatClampNeg 5) (cnM q35)) v0 0) (Int32.toNatClampNeg 6) (cnM q41)) v0 0) (Int32.toNatClampNeg 7) (cnM q47)) v0 0) (Int32.toNatClampNeg 8) (cnM q53)) v0 0) (Int32.toNatClampNeg 9) (cnM q59)) v0 0) (Int32.toNatClampNeg 10) (cnM q65)) v0 0) (Int32.toNatClampNeg 11) (cnM q71)) v0 0) (Int32.toNatClampNeg 12) (cnM q77)) v0 0 ≠ 0)) <| (alF (srM q78 (grM (srM q72 (grM (srM q66 (grM (srM q60 (grM (srM q54 (grM (srM q48 (grM (srM q42 (grM (srM q36 (grM (srM q30 (grM (srM q24 (grM (srM q18 (grM (srM q12 (grM (srM q6 (grM (srM q1 v0 0 (cnM q1)) v0 0) (Int32.toNatClampNeg 0) (cnM q5)) v0 0) (Int32.toNatClampNeg 1) (cnM q11)) v0 0) (Int32.toNatClampNeg 2) (cnM q17)) v0 0) (Int32.toNatClampNeg 3) (cnM q23)) v0 0) (Int32.toNatClampNeg 4) (cnM q29)) v0 0) (Int32.toNatClampNeg 5) (cnM q35)) v0 0) (Int32.toNatClampNeg 6) (cnM q41)) v0 0) (Int32.toNatClampNeg 7) (cnM q47)) v0 0) (Int32.toNatClampNeg 8) (cnM q53)) v0 0) (Int32.toNatClampNeg 9) (cnM q59)) v0 0) (Int32.toNatClampNeg 10) (cnM q65)) v0 0) (Int32.toNatClampNeg 11) (cnM q71)) v0 0) (Int32.toNatClampNeg 12) (cnM q77)) 1 9).bind fun q83 => (fH_init (cnM q83) v1 q83).bind fun q84 => gd (wrT 103 q84 (grM (srM q78 (grM (srM q72 (grM (srM q66 (grM (srM q60 (grM (srM q54 (grM (srM q48 (grM (srM q42 (grM (srM q36 (grM (srM q30 (grM (srM q24 (grM (srM q18 (grM (srM q12 (grM (srM q6 (grM (srM q1 v0 0 (cnM q1)) v0 0) (Int32.toNatClampNeg 0) (cnM q5)) v0 0) (Int32.toNatClampNeg 1) (cnM q11)) v0 0) (Int32.toNatClampNeg 2) (cnM q17)) v0 0) (Int32.toNatClampNeg 3) (cnM q23)) v0 0) (Int32.toNatClampNeg 4) (cnM q29)) v0 0) (Int32.toNatClampNeg 5) (cnM q35)) v0 0) (Int32.toNatClampNeg 6) (cnM q41)) v0 0) (Int32.toNatClampNeg 7) (cnM q47)) v0 0) (Int32.toNatClampNeg 8) (cnM q53)) v0 0) (Int32.toNatClampNeg 9) (cnM q59)) v0 0) (Int32.toNatClampNeg 10) (cnM q65)) v0 0) (Int32.toNatClampNeg 11) (cnM q71)) v0 0) (Int32.toNatClampNeg 12) (cnM q77)) v0 0) 13) <| gd (obM q84 (cnM q83) 1 9) <| gd (obM q84 v0 4 3) <| gd (decide (grM (srM q84 (grM (srM q78 (grM (srM q72 (grM (srM q66 (grM (srM q60 (grM (srM q54 (grM (srM q48 (grM (srM q42 (grM (srM q36 (grM (srM q30 (grM (srM q24 (grM (srM q18 (grM (srM q12 (grM (srM q6 (grM (srM q1 v0 0 (cnM q1)) v0 0) (Int32.toNatClampNeg 0) (cnM q5)) v0 0) (Int32.toNatClampNeg 1) (cnM q11)) v0 0) (Int32.toNatClampNeg 2) (cnM q17)) v0 0) (Int32.toNatClampNeg 3) (cnM q23)) v0 0) (Int32.toNatClampNeg 4) (cnM q29)) v0 0) (Int32.toNatClampNeg 5) (cnM q35)) v0 0) (Int32.toNatClampNeg 6) (cnM q41)) v0 0) (Int32.toNatClampNeg 7) (cnM q47)) v0 0) (Int32.toNatClampNeg 8) (cnM q53)) v0 0) (Int32.toNatClampNeg 9) (cnM q59)) v0 0) (Int32.toNatClampNeg 10) (cnM q65)) v0 0) (Int32.toNatClampNeg 11) (cnM q71)) v0 0) (Int32.toNatClampNeg 12) (cnM q77)) v0 0) (Int32.toNatClampNeg 13) (cnM q83)) v0 0 ≠ 0)) <| (alF (srM q84 (grM (srM q78 (grM (srM q72 (grM (srM q66 (grM (srM q60 (grM (srM q54 (grM (srM q48 (grM (srM q42 (grM (srM q36 (grM (srM q30 (grM (srM q24 (grM (srM q18 (grM (srM q12 (grM (srM q6 (grM (srM q1 v0 0 (cnM q1)) v0 0) (Int32.toNatClampNeg 0) (cnM q5)) v0 0) (Int32.toNatClampNeg 1) (cnM q11)) v0 0) (Int32.toNatClampNeg 2) (cnM q17)) v0 0) (Int32.toNatClampNeg 3) (cnM q23)) v0 0) (Int32.toNatClampNeg 4) (cnM q29)) v0 0) (Int32.toNatClampNeg 5) (cnM q35)) v0 0) (Int32.toNatClampNeg 6) (cnM q41)) v0 0) (Int32.toNatClampNeg 7) (cnM q47)) v0 0) (Int32.toNatClampNeg 8) (cnM q53)) v0 0) (Int32.toNatClampNeg 9) (cnM q59)) v0 0) (Int32.toNatClampNeg 10) (cnM q65)) v0 0) (Int32.toNatClampNeg 11) (cnM q71)) v0 0) (Int32.toNatClampNeg 12) (cnM q77)) v0 0) (Int32.toNatClampNeg 13) (cnM q83)) 1 9).bind fun q89 => (fH_init (cnM q89) v1 q89).bind fun q90 => gd (wrT 103 q90 (grM (srM q84 (grM (srM q78 (grM (srM q72 (grM (srM q66 (grM (srM q60 (grM (srM q54 (grM (srM q48 (grM (srM q42 (grM (srM q36 (grM (srM q30 (grM (srM q24 (grM (srM q18 (grM (srM q12 (grM (srM q6 (grM (srM q1 v0 0 (cnM q1)) v0 0) (Int32.toNatClampNeg 0) (cnM q5)) v0 0) (Int32.toNatClampNeg 1) (cnM q11)) v0 0) (Int32.toNatClampNeg 2) (cnM q17)) v0 0) (Int32.toNatClampNeg 3) (cnM q23)) v0 0) (Int32.toNatClampNeg 4) (cnM q29)) v0 0) (Int32.toNatClampNeg 5) (cnM q35)) v0 0) (Int32.toNatClampNeg 6) (cnM q41)) v0 0) (Int32.toNatClampNeg 7) (cnM q47)) v0 0) (Int32.toNatClampNeg 8) (cnM q53)) v0 0) (Int32.toNatClampNeg 9) (cnM q59)) v0 0) (Int32.toNatClampNeg 10) (cnM q65)) v0 0) (Int32.toNatClampNeg 11) (cnM q71)) v0 0) (Int32.toNatClampNeg 12) (cnM q77)) v0 0) (Int32.toNatClampNeg 13) (cnM q83)) v0 0) 14) <| gd (obM q90 (cnM q89) 1 9) <| gd (obM q90 v0 4 3) <| gd (decide (grM (srM q90 (grM (srM q84 (grM (srM q78 (grM (srM q72 (grM (srM q66 (grM (srM q60 (grM (srM q54 (grM (srM q48 (grM (srM q42 (grM (srM q36 (grM (srM q30 (grM (srM q24 (grM (srM q18 (grM (srM q12 (grM (srM q6 (grM (srM q1 v0 0 (cnM q1)) v0 0) (Int32.toNatClampNeg 0) (cnM q5)) v0 0) (Int32.toNatClampNeg 1) (cnM q11)) v0 0) (Int32.toNatClampNeg 2) (cnM q17)) v0 0) (Int32.toNatClampNeg 3) (cnM q23)) v0 0) (Int32.toNatClampNeg 4) (cnM q29)) v0 0) (Int32.toNatClampNeg 5) (cnM q35)) v0 0) (Int32.toNatClampNeg 6) (cnM q41)) v0 0) (Int32.toNatClampNeg 7) (cnM q47)) v0 0) (Int32.toNatClampNeg 8) (cnM q53)) v0 0) (Int32.toNatClampNeg 9) (cnM q59)) v0 0) (Int32.toNatClampNeg 10) (cnM q65)) v0 0) (Int32.toNatClampNeg 11) (cnM q71)) v0 0) (Int32.toNatClampNeg 12) (cnM q77)) v0 0) (Int32.toNatClampNeg 13) (cnM q83)) v0 0) (Int32.toNatClampNeg 14) (cnM q89)) v0 0 ≠ 0)) <| (alF (srM q90 (grM (srM q84 (grM (srM q78 (grM (srM q72 (grM (srM q66 (grM (srM q60 (grM (srM q54 (grM (srM q48 (grM (srM q42 (grM (srM q36 (grM (srM q30 (grM (srM q24 (grM (srM q18 (grM (srM q12 (grM (srM q6 (grM (srM q1 v0 0 (cnM q1)) v0 0) (Int32.toNatClampNeg 0) (cnM q5)) v0 0) (Int32.toNatClampNeg 1) (cnM q11)) v0 0) (Int32.toNatClampNeg 2) (cnM q17)) v0 0) (Int32.toNatClampNeg 3) (cnM q23)) v0 0) (Int32.toNatClampNeg 4) (cnM q29)) v0 0) (Int32.toNatClampNeg 5) (cnM q35)) v0 0) (Int32.toNatClampNeg 6) (cnM q41)) v0 0) (Int32.toNatClampNeg 7) (cnM q47)) v0 0) (Int32.toNatClampNeg 8) (cnM q53)) v0 0) (Int32.toNatClampNeg 9) (cnM q59)) v0 0) (Int32.toNatClampNeg 10) (cnM q65)) v0 0) (Int32.toNatClampNeg 11) (cnM q71)) v0 0) (Int32.toNatClampNeg 12) (cnM q77)) v0 0) (Int32.toNatClampNeg 13) (cnM q83)) v0 0) (Int32.toNatClampNeg 14) (cnM q89)) 1 9).bind fun q95 => (fH_init (cnM q95) v1 q95).bind fun q96 => gd (wrT 103 q96 (grM (srM q90 (grM (srM q84 (grM (srM q78 (grM (srM q72 (grM (srM q66 (grM (srM q60 (grM (srM q54 (grM (srM q48 (grM (srM q42 (grM (srM q36 (grM (srM q30 (grM (srM q24 (grM (srM q18 (grM (srM q12 (grM (srM q6 (grM (srM q1 v0 0 (cnM q1)) v0 0) (Int32.toNatClampNeg 0) (cnM q5)) v0 0) (Int32.toNatClampNeg 1) (cnM q11)) v0 0) (Int32.toNatClampNeg 2) (cnM q17)) v0 0) (Int32.toNatClampNeg 3) (cnM q23)) v0 0) (Int32.toNatClampNeg 4) (cnM q29)) v0 0) (Int32.toNatClampNeg 5) (cnM q35)) v0 0) (Int32.toNatClampNeg 6) (cnM q41)) v0 0) (Int32.toNatClampNeg 7) (cnM q47)) v0 0) (Int32.toNatClampNeg 8) (cnM q53)) v0 0) (Int32.toNatClampNeg 9) (cnM q59)) v0 0) (Int32.toNatClampNeg 10) (cnM q65)) v0 0) (Int32.toNatClampNeg 11) (cnM q71)) v0 0) (Int32.toNatClampNeg 12) (cnM q77)) v0 0) (Int32.toNatClampNeg 13) (cnM q83)) v0 0) (Int32.toNatClampNeg 14) (cnM q89)) v0 0) 15) <| gd (obM q96 (cnM q95) 1 9) <| gd (obM q96 v0 4 3) <| gd (decide (grM (srM q96 (grM (srM q90 (grM (srM q84 (grM (srM q78 (grM (srM q72 (grM (srM q66 (grM (srM q60 (grM (srM q54 (grM (srM q48 (grM (srM q42 (grM (srM q36 (grM (srM q30 (grM (srM q24 (grM (srM q18 (grM (srM q12 (grM (srM q6 (grM (srM q1 v0 0 (cnM q1)) v0 0) (Int32.toNatClampNeg 0) (cnM q5)) v0 0) (Int32.toNatClampNeg 1) (cnM q11)) v0 0) (Int32.toNatClampNeg 2) (cnM q17)) v0 0) (Int32.toNatClampNeg 3) (cnM q23)) v0 0) (Int32.toNatClampNeg 4) (cnM q29)) v0 0) (Int32.toNatClampNeg 5) (cnM q35)) v0 0) (Int32.toNatClampNeg 6) (cnM q41)) v0 0) (Int32.toNatClampNeg 7) (cnM q47)) v0 0) (Int32.toNatClampNeg 8) (cnM q53)) v0 0) (Int32.toNatClampNeg 9) (cnM q59)) v0 0) (Int32.toNatClampNeg 10) (cnM q65)) v0 0) (Int32.toNatClampNeg 11) (cnM q71)) v0 0) (Int32.toNatClampNeg 12) (cnM q77)) v0 0) (Int32.toNatClampNeg 13) (cnM q83)) v0 0) (Int32.toNatClampNeg 14) (cnM q89)) v0 0) (Int32.toNatClampNeg 15) (cnM q95)) v0 0 ≠ 0)) <| (alF (srM q96 (grM (srM q90 (grM (srM q84 (grM (srM q78 (grM (srM q72 (grM (srM q66 (grM (srM q60 (grM (srM q54 (grM (srM q48 (grM (srM q42 (grM (srM q36 (grM (srM q30 (grM (srM q24 (grM (srM q18 (grM (srM q12 (grM (srM q6 (grM (srM q1 v0 0 (cnM q1)) v0 0) (Int32.toNatClampNeg 0) (cnM q5)) v0 0) (Int32.toNatClampNeg 1) (cnM q11)) v0 0) (Int32.toNatClampNeg 2) (cnM q17)) v0 0) (Int32.toNatClampNeg 3) (cnM q23)) v0 0) (Int32.toNatClampNeg 4) (cnM q29)) v0 0) (Int32.toNatClampNeg 5) (cnM q35)) v0 0) (Int32.toNatClampNeg 6) (cnM q41)) v0 0) (Int32.toNatClampNeg 7) (cnM q47)) v0 0) (Int32.toNatClampNeg 8) (cnM q53)) v0 0) (Int32.toNatClampNeg 9) (cnM q59)) v0 0) (Int32.toNatClampNeg 10) (cnM q65)) v0 0) (Int32.toNatClampNeg 11) (cnM q71)) v0 0) (Int32.toNatClampNeg 12) (cnM q77)) v0 0) (Int32.toNatClampNeg 13) (cnM q83)) v0 0) (Int32.toNatClampNeg 14) (cnM q89)) v0 0) (Int32.toNatClampNeg 15) (cnM q95)) 1 9).bind fun q101 => (fH_init (cnM q101) v1 q101).bind fun q102 => gd (wrT 103 q102 (grM (srM q96 (grM (srM q90 (grM (srM q84 (grM (srM q78 (grM (srM q72 (grM (srM q66 (grM (srM q60 (grM (srM q54 (grM (srM q48 (grM (srM q42 (grM (srM q36 (grM (srM q30 (grM (srM q24 (grM (srM q18 (grM (srM q12 (grM (srM q6 (grM (srM q1 v0 0 (cnM q1)) v0 0) (Int32.toNatClampNeg 0) (cnM q5)) v0 0) (Int32.toNatClampNeg 1) (cnM q11)) v0 0) (Int32.toNatClampNeg 2) (cnM q17)) v0 0) (Int32.toNatClampNeg 3) (cnM q23)) v0 0) (Int32.toNatClampNeg 4) (cnM q29)) v0 0) (Int32.toNatClampNeg 5) (cnM q35)) v0 0) (Int32.toNatClampNeg 6) (cnM q41)) v0 0) (Int32.toNatClampNeg 7) (cnM q47)) v0 0) (Int32.toNatClampNeg 8) (cnM q53)) v0 0) (Int32.toNatClampNeg 9) (cnM q59)) v0 0) (Int32.toNatClampNeg 10) (cnM q65)) v0 0) (Int32.toNatClampNeg 11) (cnM q71)) v0 0) (Int32.toNatClampNeg 12) (cnM q77)) v0 0) (Int32.toNatClampNeg 13) (cnM q83)) v0 0) (Int32.toNatClampNeg 14) (cnM q89)) v0 0) (Int32.toNatClampNeg 15) (cnM q95)) v0 0) 16) <| gd (obM q102 (cnM q101) 1 9) <| gd (obM q102 v0 4 3) <| gd (decide (grM (srM q102 (grM (srM q96 (grM (srM q90 (grM (srM q84 (grM (srM q78 (grM (srM q72 (grM (srM q66 (grM (srM q60 (grM (srM q54 (grM (srM q48 (grM (srM q42 (grM (srM q36 (grM (srM q30 (grM (srM q24 (grM (srM q18 (grM (srM q12 (grM (srM q6 (grM (srM q1 v0 0 (cnM q1)) v0 0) (Int32.toNatClampNeg 0) (cnM q5)) v0 0) (Int32.toNatClampNeg 1) (cnM q11)) v0 0) (Int32.toNatClampNeg 2) (cnM q17)) v0 0) (Int32.toNatClampNeg 3) (cnM q23)) v0 0) (Int32.toNatClampNeg 4) (cnM q29)) v0 0) (Int32.toNatClampNeg 5) (cnM q35)) v0 0) (Int32.toNatClampNeg 6) (cnM q41)) v0 0) (Int32.toNatClampNeg 7) (cnM q47)) v0 0) (Int32.toNatClampNeg 8) (cnM q53)) v0 0) (Int32.toNatClampNeg 9) (cnM q59)) v0 0) (Int32.toNatClampNeg 10) (cnM q65)) v0 0) (Int32.toNatClampNeg 11) (cnM q71)) v0 0) (Int32.toNatClampNeg 12) (cnM q77)) v0 0) (Int32.toNatClampNeg 13) (cnM q83)) v0 0) (Int32.toNatClampNeg 14) (cnM q89)) v0 0) (Int32.toNatClampNeg 15) (cnM q95)) v0 0) (Int32.toNatClampNeg 16) (cnM q101)) v0 0 ≠ 0)) <| (alF (srM q102 (grM (srM q96 (grM (srM q90 (grM (srM q84 (grM (srM q78 (grM (srM q72 (grM (srM q66 (grM (srM q60 (grM (srM q54 (grM (srM q48 (grM (srM q42 (grM (srM q36 (grM (srM q30 (grM (srM q24 (grM (srM q18 (grM (srM q12 (grM (srM q6 (grM (srM q1 v0 0 (cnM q1)) v0 0) (Int32.toNatClampNeg 0) (cnM q5)) v0 0) (Int32.toNatClampNeg 1) (cnM q11)) v0 0) (Int32.toNatClampNeg 2) (cnM q17)) v0 0) (Int32.toNatClampNeg 3) (cnM q23)) v0 0) (Int32.toNatClampNeg 4) (cnM q29)) v0 0) (Int32.toNatClampNeg 5) (cnM q35)) v0 0) (Int32.toNatClampNeg 6) (cnM q41)) v0 0) (Int32.toNatClampNeg 7) (cnM q47)) v0 0) (Int32.toNatClampNeg 8) (cnM q53)) v0 0) (Int32.toNatClampNeg 9) (cnM q59)) v0 0) (Int32.toNatClampNeg 10) (cnM q65)) v0 0) (Int32.toNatClampNeg 11) (cnM q71)) v0 0) (Int32.toNatClampNeg 12) (cnM q77)) v0 0) (Int32.toNatClampNeg 13) (cnM q83)) v0 0) (Int32.toNatClampNeg 14) (cnM q89)) v0 0) (Int32.toNatClampNeg 15) (cnM q95)) v0 0) (Int32.toNatClampNeg 16) (cnM q101)) 1 9).bind fun q107 => (fH_init (cnM q107) v1 q107).bind fun q108 => gd (wrT 103 q108 (grM (srM q102 (grM (srM q96 (grM (srM q90 (grM (srM q84 (grM (srM q78 (grM (srM q72 (grM (srM q66 (grM (srM q60 (grM (srM q54 (grM (srM q48 (grM (srM q42 (grM (srM q36 (grM (srM q30 (grM (srM q24 (grM (srM q18 (grM (srM q12 (grM (srM q6 (grM (srM q1 v0 0 (cnM q1)) v0 0) (Int32.toNatClampNeg 0) (cnM q5)) v0 0) (Int32.toNatClampNeg 1) (cnM q11)) v0 0) (Int32.toNatClampNeg 2) (cnM q17)) v0 0) (Int32.toNatClampNeg 3) (cnM q23)) v0 0) (Int32.toNatClampNeg 4) (cnM q29)) v0 0) (Int32.toNatClampNeg 5) (cnM q35)) v0 0) (Int32.toNatClampNeg 6) (cnM q41)) v0 0) (Int32.toNatClampNeg 7) (cnM q47)) v0 0) (Int32.toNatClampNeg 8) (cnM q53)) v0 0) (Int32.toNatClampNeg 9) (cnM q59)) v0 0) (Int32.toNatClampNeg 10) (cnM q65)) v0 0) (Int32.toNatClampNeg 11) (cnM q71)) v0 0) (Int32.toNatClampNeg 12) (cnM q77)) v0 0) (Int32.toNatClampNeg 13) (cnM q83)) v0 0) (Int32.toNatClampNeg 14) (cnM q89)) v0 0) (Int32.toNatClampNeg 15) (cnM q95)) v0 0) (Int32.toNatClampNeg 16) (cnM q101)) v0 0) 17) <| gd (obM q108 (cnM q107) 1 9) <| gd (obM q108 v0 4 3) <| gd (decide (grM (srM q108 (grM (srM q102 (grM (srM q96 (grM (srM q90 (grM (srM q84 (grM (srM q78 (grM (srM q72 (grM (srM q66 (grM (srM q60 (grM (srM q54 (grM (srM q48 (grM (srM q42 (grM (srM q36 (grM (srM q30 (grM (srM q24 (grM (srM q18 (grM (srM q12 (grM (srM q6 (grM (srM q1 v0 0 (cnM q1)) v0 0) (Int32.toNatClampNeg 0) (cnM q5)) v0 0) (Int32.toNatClampNeg 1) (cnM q11)) v0 0) (Int32.toNatClampNeg 2) (cnM q17)) v0 0) (Int32.toNatClampNeg 3) (cnM q23)) v0 0) (Int32.toNatClampNeg 4) (cnM q29)) v0 0) (Int32.toNatClampNeg 5) (cnM q35)) v0 0) (Int32.toNatClampNeg 6) (cnM q41)) v0 0) (Int32.toNatClampNeg 7) (cnM q47)) v0 0) (Int32.toNatClampNeg 8) (cnM q53)) v0 0) (Int32.toNatClampNeg 9) (cnM q59)) v0 0) (Int32.toNatClampNeg 10) (cnM q65)) v0 0) (Int32.toNatClampNeg 11) (cnM q71)) v0 0) (Int32.toNatClampNeg 12) (cnM q77)) v0 0) (Int32.toNatClampNeg 13) (cnM q83)) v0 0) (Int32.toNatClampNeg 14) (cnM q89)) v0 0) (Int32.toNatClampNeg 15) (cnM q95)) v0 0) (Int32.toNatClampNeg 16) (cnM q101)) v0 0) (Int32.toNatClampNeg 17) (cnM q107)) v0 0 ≠ 0)) <| (alF (srM q108 (grM (srM q102 (grM (srM q96 (grM (srM q90 (grM (srM q84 (grM (srM q78 (grM (srM q72 (grM (srM q66 (grM (srM q60 (grM (srM q54 (grM (srM q48 (grM (srM q42 (grM (srM q36 (grM (srM q30 (grM (srM q24 (grM (srM q18 (grM (srM q12 (grM (srM q6 (grM (srM q1 v0 0 (cnM q1)) v0 0) (Int32.toNatClampNeg 0) (cnM q5)) v0 0) (Int32.toNatClampNeg 1) (cnM q11)) v0 0) (Int32.toNatClampNeg 2) (cnM q17)) v0 0) (Int32.toNatClampNeg 3) (cnM q23)) v0 0) (Int32.toNatClampNeg 4) (cnM q29)) v0 0) (Int32.toNatClampNeg 5) (cnM q35)) v0 0) (Int32.toNatClampNeg 6) (cnM q41)) v0 0) (Int32.toNatClampNeg 7) (cnM q47)) v0 0) (Int32.toNatClampNeg 8) (cnM q53)) v0 0) (Int32.toNatClampNeg 9) (cnM q59)) v0 0) (Int32.toNatClampNeg 10) (cnM q65)) v0 0) (Int32.toNatClampNeg 11) (cnM q71)) v0 0) (Int32.toNatClampNeg 12) (cnM q77)) v0 0) (Int32.toNatClampNeg 13) (cnM q83)) v0 0) (Int32.toNatClampNeg 14) (cnM q89)) v0 0) (Int32.toNatClampNeg 15) (cnM q95)) v0 0) (Int32.toNatClampNeg 16) (cnM q101)) v0 0) (Int32.toNatClampNeg 17) (cnM q107)) 1 9).bind fun q113 => (fH_init (cnM q113) v1 q113).bind fun q114 => gd (wrT 103 q114 (grM (srM q108 (grM (srM q102 (grM (srM q96 (grM (srM q90 (grM (srM q84 (grM (srM q78 (grM (srM q72 (grM (srM q66 (grM (srM q60 (grM (srM q54 (grM (srM q48 (grM (srM q42 (grM (srM q36 (grM (srM q30 (grM (srM q24 (grM (srM q18 (grM (srM q12 (grM (srM q6 (grM (srM q1 v0 0 (cnM q1)) v0 0) (Int32.toNatClampNeg 0) (cnM q5)) v0 0) (Int32.toNatClampNeg 1) (cnM q11)) v0 0) (Int32.toNatClampNeg 2) (cnM q17)) v0 0) (Int32.toNatClampNeg 3) (cnM q23)) v0 0) (Int32.toNatClampNeg 4) (cnM q29)) v0 0) (Int32.toNatClampNeg 5) (cnM q35)) v0 0) (Int32.toNatClampNeg 6) (cnM q41)) v0 0) (Int32.toNatClampNeg 7) (cnM q47)) v0 0) (Int32.toNatClampNeg 8) (cnM q53)) v0 0) (Int32.toNatClampNeg 9) (cnM q59)) v0 0) (Int32.toNatClampNeg 10) (cnM q65)) v0 0) (Int32.toNatClampNeg 11) (cnM q71)) v0 0) (Int32.toNatClampNeg 12) (cnM q77)) v0 0) (Int32.toNatClampNeg 13) (cnM q83)) v0 0) (Int32.toNatClampNeg 14) (cnM q89)) v0 0) (Int32.toNatClampNeg 15) (cnM q95)) v0 0) (Int32.toNatClampNeg 16) (cnM q101)) v0 0) (Int32.toNatClampNeg 17) (cnM q107)) v0 0) 18) <| gd (obM q114 (cnM q113) 1 9) <| gd (obM q114 v0 4 3) <| gd (decide (grM (srM q114 (grM (srM q108 (grM (srM q102 (grM (srM q96 (grM (srM q90 (grM (srM q84 (grM (srM q78 (grM (srM q72 (grM (srM q66 (grM (srM q60 (grM (srM q54 (grM (srM q48 (grM (srM q42 (grM (srM q36 (grM (srM q30 (grM (srM q24 (grM (srM q18 (grM (srM q12 (grM (srM q6 (grM (srM q1 v0 0 (cnM q1)) v0 0) (Int32.toNatClampNeg 0) (cnM q5)) v0 0) (Int32.toNatClampNeg 1) (cnM q11)) v0 0) (Int32.toNatClampNeg 2) (cnM q17)) v0 0) (Int32.toNatClampNeg 3) (cnM q23)) v0 0) (Int32.toNatClampNeg 4) (cnM q29)) v0 0) (Int32.toNatClampNeg 5) (cnM q35)) v0 0) (Int32.toNatClampNeg 6) (cnM q41)) v0 0) (Int32.toNatClampNeg 7) (cnM q47)) v0 0) (Int32.toNatClampNeg 8) (cnM q53)) v0 0) (Int32.toNatClampNeg 9) (cnM q59)) v0 0) (Int32.toNatClampNeg 10) (cnM q65)) v0 0) (Int32.toNatClampNeg 11) (cnM q71)) v0 0) (Int32.toNatClampNeg 12) (cnM q77)) v0 0) (Int32.toNatClampNeg 13) (cnM q83)) v0 0) (Int32.toNatClampNeg 14) (cnM q89)) v0 0) (Int32.toNatClampNeg 15) (cnM q95)) v0 0) (Int32.toNatClampNeg 16) (cnM q101)) v0 0) (Int32.toNatClampNeg 17) (cnM q107)) v0 0) (Int32.toNatClampNeg 18) (cnM q113)) v0 0 ≠ 0)) <| (alF (srM q114 (grM (srM q108 (grM (srM q102 (grM (srM q96 (grM (srM q90 (grM (srM q84 (grM (srM q78 (grM (srM q72 (grM (srM q66 (grM (srM q60 (grM (srM q54 (grM (srM q48 (grM (srM q42 (grM (srM q36 (grM (srM q30 (grM (srM q24 (grM (srM q18 (grM (srM q12 (grM (srM q6 (grM (srM q1 v0 0 (cnM q1)) v0 0) (Int32.toNatClampNeg 0) (cnM q5)) v0 0) (Int32.toNatClampNeg 1) (cnM q11)) v0 0) (Int32.toNatClampNeg 2) (cnM q17)) v0 0) (Int32.toNatClampNeg 3) (cnM q23)) v0 0) (Int32.toNatClampNeg 4) (cnM q29)) v0 0) (Int32.toNatClampNeg 5) (cnM q35)) v0 0) (Int32.toNatClampNeg 6) (cnM q41)) v0 0) (Int32.toNatClampNeg 7) (cnM q47)) v0 0) (Int32.toNatClampNeg 8) (cnM q53)) v0 0) (Int32.toNatClampNeg 9) (cnM q59)) v0 0) (Int32.toNatClampNeg 10) (cnM q65)) v0 0) (Int32.toNatClampNeg 11) (cnM q71)) v0 0) (Int32.toNatClampNeg 12) (cnM q77)) v0 0) (Int32.toNatClampNeg 13) (cnM q83)) v0 0) (Int32.toNatClampNeg 14) (cnM q89)) v0 0) (Int32.toNatClampNeg 15) (cnM q95)) v0 0) (Int32.toNatClampNeg 16) (cnM q101)) v0 0) (Int32.toNatClampNeg 17) (cnM q107)) v0 0) (Int32.toNatClampNeg 18) (cnM q113)) 1 9).bind fun q119 => (fH_init (cnM q119) v1 q119).bind fun q120 => gd (wrT 103 q120 (grM (srM q114 (grM (srM q108 (grM (srM q102 (grM (srM q96 (grM (srM q90 (grM (srM q84 (grM (srM q78 (grM (srM q72 (grM (srM q66 (grM (srM q60 (grM (srM q54 (grM (srM q48 (grM (srM q42 (grM (srM q36 (grM (srM q30 (grM (srM q24 (grM (srM q18 (grM (srM q12 (grM (srM q6 (grM (srM q1 v0 0 (cnM q1)) v0 0) (Int32.toNatClampNeg 0) (cnM q5)) v0 0) (Int32.toNatClampNeg 1) (cnM q11)) v0 0) (Int32.toNatClampNeg 2) (cnM q17)) v0 0) (Int32.toNatClampNeg 3) (cnM q23)) v0 0) (Int32.toNatClampNeg 4) (cnM q29)) v0 0) (Int32.toNatClampNeg 5) (cnM q35)) v0 0) (Int32.toNatClampNeg 6) (cnM q41)) v0 0) (Int32.toNatClampNeg 7) (cnM q47)) v0 0) (Int32.toNatClampNeg 8) (cnM q53)) v0 0) (Int32.toNatClampNeg 9) (cnM q59)) v0 0) (Int32.toNatClampNeg 10) (cnM q65)) v0 0) (Int32.toNatClampNeg 11) (cnM q71)) v0 0) (Int32.toNatClampNeg 12) (cnM q77)) v0 0) (Int32.toNatClampNeg 13) (cnM q83)) v0 0) (Int32.toNatClampNeg 14) (cnM q89)) v0 0) (Int32.toNatClampNeg 15) (cnM q95)) v0 0) (Int32.toNatClampNeg 16) (cnM q101)) v0 0) (Int32.toNatClampNeg 17) (cnM q107)) v0 0) (Int32.toNatClampNeg 18) (cnM q113)) v0 0) 19) <| gd (obM q120 (cnM q119) 1 9) <| gd (obM q120 v0 4 3) <| gd (decide (grM (srM q120 (grM (srM q114 (grM (srM q108 (grM (srM q102 (grM (srM q96 (grM (srM q90 (grM (srM q84 (grM (srM q78 (grM (srM q72 (grM (srM q66 (grM (srM q60 (grM (srM q54 (grM (srM q48 (grM (srM q42 (grM (srM q36 (grM (srM q30 (grM (srM q24 (grM (srM q18 (grM (srM q12 (grM (srM q6 (grM (srM q1 v0 0 (cnM q1)) v0 0) (Int32.toNatClampNeg 0) (cnM q5)) v0 0) (Int32.toNatClampNeg 1) (cnM q11)) v0 0) (Int32.toNatClampNeg 2) (cnM q17)) v0 0) (Int32.toNatClampNeg 3) (cnM q23)) v0 0) (Int32.toNatClampNeg 4) (cnM q29)) v0 0) (Int32.toNatClampNeg 5) (cnM q35)) v0 0) (Int32.toNatClampNeg 6) (cnM q41)) v0 0) (Int32.toNatClampNeg 7) (cnM q47)) v0 0) (Int32.toNatClampNeg 8) (cnM q53)) v0 0) (Int32.toNatClampNeg 9) (cnM q59)) v0 0) (Int32.toNatClampNeg 10) (cnM q65)) v0 0) (Int32.toNatClampNeg 11) (cnM q71)) v0 0) (Int32.toNatClampNeg 12) (cnM q77)) v0 0) (Int32.toNatClampNeg 13) (cnM q83)) v0 0) (Int32.toNatClampNeg 14) (cnM q89)) v0 0) (Int32.toNatClampNeg 15) (cnM q95)) v0 0) (Int32.toNatClampNeg 16) (cnM q101)) v0 0) (Int32.toNatClampNeg 17) (cnM q107)) v0 0) (Int32.toNatClampNeg 18) (cnM q113)) v0 0) (Int32.toNatClampNeg 19) (cnM q119)) v0 0 ≠ 0)) <| (alF (srM q120 (grM (srM q114 (grM (srM q108 (grM (srM q102 (grM (srM q96 (grM (srM q90 (grM (srM q84 (grM (srM q78 (grM (srM q72 (grM (srM q66 (grM (srM q60 (grM (srM q54 (grM (srM q48 (grM (srM q42 (grM (srM q36 (grM (srM q30 (grM (srM q24 (grM (srM q18 (grM (srM q12 (grM (srM q6 (grM (srM q1 v0 0 (cnM q1)) v0 0) (Int32.toNatClampNeg 0) (cnM q5)) v0 0) (Int32.toNatClampNeg 1) (cnM q11)) v0 0) (Int32.toNatClampNeg 2) (cnM q17)) v0 0) (Int32.toNatClampNeg 3) (cnM q23)) v0 0) (Int32.toNatClampNeg 4) (cnM q29)) v0 0) (Int32.toNatClampNeg 5) (cnM q35)) v0 0) (Int32.toNatClampNeg 6) (cnM q41)) v0 0) (Int32.toNatClampNeg 7) (cnM q47)) v0 0) (Int32.toNatClampNeg 8) (cnM q53)) v0 0) (Int32.toNatClampNeg 9) (cnM q59)) v0 0) (Int32.toNatClampNeg 10) (cnM q65)) v0 0) (Int32.toNatClampNeg 11) (cnM q71)) v0 0) (Int32.toNatClampNeg 12) (cnM q77)) v0 0) (Int32.toNatClampNeg 13) (cnM q83)) v0 0) (Int32.toNatClampNeg 14) (cnM q89)) v0 0) (Int32.toNatClampNeg 15) (cnM q95)) v0 0) (Int32.toNatClampNeg 16) (cnM q101)) v0 0) (Int32.toNatClampNeg 17) (cnM q107)) v0 0) (Int32.toNatClampNeg 18) (cnM q113)) v0 0) (Int32.toNatClampNeg 19) (cnM q119)) 1 9).bind fun q125 => (fH_init (cnM q125) v1 q125).bind fun q126 => gd (wrT 103 q126 (grM (srM q120 (grM (srM q114 (grM (srM q108 (grM (srM q102 (grM (srM q96 (grM (srM q90 (grM (srM q84 (grM (srM q78 (grM (srM q72 (grM (srM q66 (grM (srM q60 (grM (srM q54 (grM (srM q48 (grM (srM q42 (grM (srM q36 (grM (srM q30 (grM (srM q24 (grM (srM q18 (grM (srM q12 (grM (srM q6 (grM (srM q1 v0 0 (cnM q1)) v0 0) (Int32.toNatClampNeg 0) (cnM q5)) v0 0) (Int32.toNatClampNeg 1) (cnM q11)) v0 0) (Int32.toNatClampNeg 2) (cnM q17)) v0 0) (Int32.toNatClampNeg 3) (cnM q23)) v0 0) (Int32.toNatClampNeg 4) (cnM q29)) v0 0) (Int32.toNatClampNeg 5) (cnM q35)) v0 0) (Int32.toNatClampNeg 6) (cnM q41)) v0 0) (Int32.toNatClampNeg 7) (cnM q47)) v0 0) (Int32.toNatClampNeg 8) (cnM q53)) v0 0) (Int32.toNatClampNeg 9) (cnM q59)) v0 0) (Int32.toNatClampNeg 10) (cnM q65)) v0 0) (Int32.toNatClampNeg 11) (cnM q71)) v0 0) (Int32.toNatClampNeg 12) (cnM q77)) v0 0) (Int32.toNatClampNeg 13) (cnM q83)) v0 0) (Int32.toNatClampNeg 14) (cnM q89)) v0 0) (Int32.toNatClampNeg 15) (cnM q95)) v0 0) (Int32.toNatClampNeg 16) (cnM q101)) v0 0) (Int32.toNatClampNeg 17) (cnM q107)) v0 0) (Int32.toNatClampNeg 18) (cnM q113)) v0 0) (Int32.toNatClampNeg 19) (cnM q119)) v0 0) 20) <| gd (obM q126 (cnM q125) 1 9) <| gd (obM q126 v0 4 3) <| gd (decide (grM (srM q126 (grM (srM q120 (grM (srM q114 (grM (srM q108 (grM (srM q102 (grM (srM q96 (grM (srM q90 (grM (srM q84 (grM (srM q78 (grM (srM q72 (grM (srM q66 (grM (srM q60 (grM (srM q54 (grM (srM q48 (grM (srM q42 (grM (srM q36 (grM (srM q30 (grM (srM q24 (grM (srM q18 (grM (srM q12 (grM (srM q6 (grM (srM q1 v0 0 (cnM q1)) v0 0) (Int32.toNatClampNeg 0) (cnM q5)) v0 0) (Int32.toNatClampNeg 1) (cnM q11)) v0 0) (Int32.toNatClampNeg 2) (cnM q17)) v0 0) (Int32.toNatClampNeg 3) (cnM q23)) v0 0) (Int32.toNatClampNeg 4) (cnM q29)) v0 0) (Int32.toNatClampNeg 5) (cnM q35)) v0 0) (Int32.toNatClampNeg 6) (cnM q41)) v0 0) (Int32.toNatClampNeg 7) (cnM q47)) v0 0) (Int32.toNatClampNeg 8) (cnM q53)) v0 0) (Int32.toNatClampNeg 9) (cnM q59)) v0 0) (Int32.toNatClampNeg 10) (cnM q65)) v0 0) (Int32.toNatClampNeg 11) (cnM q71)) v0 0) (Int32.toNatClampNeg 12) (cnM q77)) v0 0) (Int32.toNatClampNeg 13) (cnM q83)) v0 0) (Int32.toNatClampNeg 14) (cnM q89)) v0 0) (Int32.toNatClampNeg 15) (cnM q95)) v0 0) (Int32.toNatClampNeg 16) (cnM q101)) v0 0) (Int32.toNatClampNeg 17) (cnM q107)) v0 0) (Int32.toNatClampNeg 18) (cnM q113)) v0 0) (Int32.toNatClampNeg 19) (cnM q119)) v0 0) (Int32.toNatClampNeg 20) (cnM q125)) v0 0 ≠ 0)) <| (alF (srM q126 (grM (srM q120 (grM (srM q114 (grM (srM q108 (grM (srM q102 (grM (srM q96 (grM (srM q90 (grM (srM q84 (grM (srM q78 (grM (srM q72 (grM (srM q66 (grM (srM q60 (grM (srM q54 (grM (srM q48 (grM (srM q42 (grM (srM q36 (grM (srM q30 (grM (srM q24 (grM (srM q18 (grM (srM q12 (grM (srM q6 (grM (srM q1 v0 0 (cnM q1)) v0 0) (Int32.toNatClampNeg 0) (cnM q5)) v0 0) (Int32.toNatClampNeg 1) (cnM q11)) v0 0) (Int32.toNatClampNeg 2) (cnM q17)) v0 0) (Int32.toNatClampNeg 3) (cnM q23)) v0 0) (Int32.toNatClampNeg 4) (cnM q29)) v0 0) (Int32.toNatClampNeg 5) (cnM q35)) v0 0) (Int32.toNatClampNeg 6) (cnM q41)) v0 0) (Int32.toNatClampNeg 7) (cnM q47)) v0 0) (Int32.toNatClampNeg 8) (cnM q53)) v0 0) (Int32.toNatClampNeg 9) (cnM q59)) v0 0) (Int32.toNatClampNeg 10) (cnM q65)) v0 0) (Int32.toNatClampNeg 11) (cnM q71)) v0 0) (Int32.toNatClampNeg 12) (cnM q77)) v0 0) (Int32.toNatClampNeg 13) (cnM q83)) v0 0) (Int32.toNatClampNeg 14) (cnM q89)) v0 0) (Int32.toNatClampNeg 15) (cnM q95)) v0 0) (Int32.toNatClampNeg 16) (cnM q101)) v0 0) (Int32.toNatClampNeg 17) (cnM q107)) v0 0) (Int32.toNatClampNeg 18) (cnM q113)) v0 0) (Int32.toNatClampNeg 19) (cnM q119)) v0 0) (Int32.toNatClampNeg 20) (cnM q125)) 1 9).bind fun q131 => (fH_init (cnM q131) v1 q131).bind fun q132 => gd (wrT 103 q132 (grM (srM q126 (grM (srM q120 (grM (srM q114 (grM (srM q108 (grM (srM q102 (grM (srM q96 (grM (srM q90 (grM (srM q84 (grM (srM q78 (grM (srM q72 (grM (srM q66 (grM (srM q60 (grM (srM q54 (grM (srM q48 (grM (srM q42 (grM (srM q36 (grM (srM q30 (grM (srM q24 (grM (srM q18 (grM (srM q12 (grM (srM q6 (grM (srM q1 v0 0 (cnM q1)) v0 0) (Int32.toNatClampNeg 0) (cnM q5)) v0 0) (Int32.toNatClampNeg 1) (cnM q11)) v0 0) (Int32.toNatClampNeg 2) (cnM q17)) v0 0) (Int32.toNatClampNeg 3) (cnM q23)) v0 0) (Int32.toNatClampNeg 4) (cnM q29)) v0 0) (Int32.toNatClampNeg 5) (cnM q35)) v0 0) (Int32.toNatClampNeg 6) (cnM q41)) v0 0) (Int32.toNatClampNeg 7) (cnM q47)) v0 0) (Int32.toNatClampNeg 8) (cnM q53)) v0 0) (Int32.toNatClampNeg 9) (cnM q59)) v0 0) (Int32.toNatClampNeg 10) (cnM q65)) v0 0) (Int32.toNatClampNeg 11) (cnM q71)) v0 0) (Int32.toNatClampNeg 12) (cnM q77)) v0 0) (Int32.toNatClampNeg 13) (cnM q83)) v0 0) (Int32.toNatClampNeg 14) (cnM q89)) v0 0) (Int32.toNatClampNeg 15) (cnM q95)) v0 0) (Int32.toNatClampNeg 16) (cnM q101)) v0 0) (Int32.toNatClampNeg 17) (cnM q107)) v0 0) (Int32.toNatClampNeg 18) (cnM q113)) v0 0) (Int32.toNatClampNeg 19) (cnM q119)) v0 0) (Int32.toNatClampNeg 20) (cnM q125)) v0 0) 21) <| gd (obM q132 (cnM q131) 1 9) <| gd (obM q132 v0 4 3) <| gd (decide (grM (srM q132 (grM (srM q126 (grM (srM q120 (grM (srM q114 (grM (srM q108 (grM (srM q102 (grM (srM q96 (grM (srM q90 (grM (srM q84 (grM (srM q78 (grM (srM q72 (grM (srM q66 (grM (srM q60 (grM (srM q54 (grM (srM q48 (grM (srM q42 (grM (srM q36 (grM (srM q30 (grM (srM q24 (grM (srM q18 (grM (srM q12 (grM (srM q6 (grM (srM q1 v0 0 (cnM q1)) v0 0) (Int32.toNatClampNeg 0) (cnM q5)) v0 0) (Int32.toNatClampNeg 1) (cnM q11)) v0 0) (Int32.toNatClampNeg 2) (cnM q17)) v0 0) (Int32.toNatClampNeg 3) (cnM q23)) v0 0) (Int32.toNatClampNeg 4) (cnM q29)) v0 0) (Int32.toNatClampNeg 5) (cnM q35)) v0 0) (Int32.toNatClampNeg 6) (cnM q41)) v0 0) (Int32.toNatClampNeg 7) (cnM q47)) v0 0) (Int32.toNatClampNeg 8) (cnM q53)) v0 0) (Int32.toNatClampNeg 9) (cnM q59)) v0 0) (Int32.toNatClampNeg 10) (cnM q65)) v0 0) (Int32.toNatClampNeg 11) (cnM q71)) v0 0) (Int32.toNatClampNeg 12) (cnM q77)) v0 0) (Int32.toNatClampNeg 13) (cnM q83)) v0 0) (Int32.toNatClampNeg 14) (cnM q89)) v0 0) (Int32.toNatClampNeg 15) (cnM q95)) v0 0) (Int32.toNatClampNeg 16) (cnM q101)) v0 0) (Int32.toNatClampNeg 17) (cnM q107)) v0 0) (Int32.toNatClampNeg 18) (cnM q113)) v0 0) (Int32.toNatClampNeg 19) (cnM q119)) v0 0) (Int32.toNatClampNeg 20) (cnM q125)) v0 0) (Int32.toNatClampNeg 21) (cnM q131)) v0 0 ≠ 0)) <| (alF (srM q132 (grM (srM q126 (grM (srM q120 (grM (srM q114 (grM (srM q108 (grM (srM q102 (grM (srM q96 (grM (srM q90 (grM (srM q84 (grM (srM q78 (grM (srM q72 (grM (srM q66 (grM (srM q60 (grM (srM q54 (grM (srM q48 (grM (srM q42 (grM (srM q36 (grM (srM q30 (grM (srM q24 (grM (srM q18 (grM (srM q12 (grM (srM q6 (grM (srM q1 v0 0 (cnM q1)) v0 0) (Int32.toNatClampNeg 0) (cnM q5)) v0 0) (Int32.toNatClampNeg 1) (cnM q11)) v0 0) (Int32.toNatClampNeg 2) (cnM q17)) v0 0) (Int32.toNatClampNeg 3) (cnM q23)) v0 0) (Int32.toNatClampNeg 4) (cnM q29)) v0 0) (Int32.toNatClampNeg 5) (cnM q35)) v0 0) (Int32.toNatClampNeg 6) (cnM q41)) v0 0) (Int32.toNatClampNeg 7) (cnM q47)) v0 0) (Int32.toNatClampNeg 8) (cnM q53)) v0 0) (Int32.toNatClampNeg 9) (cnM q59)) v0 0) (Int32.toNatClampNeg 10) (cnM q65)) v0 0) (Int32.toNatClampNeg 11) (cnM q71)) v0 0) (Int32.toNatClampNeg 12) (cnM q77)) v0 0) (Int32.toNatClampNeg 13) (cnM q83)) v0 0) (Int32.toNatClampNeg 14) (cnM q89)) v0 0) (Int32.toNatClampNeg 15) (cnM q95)) v0 0) (Int32.toNatClampNeg 16) (cnM q101)) v0 0) (Int32.toNatClampNeg 17) (cnM q107)) v0 0) (Int32.toNatClampNeg 18) (cnM q113)) v0 0) (Int32.toNatClampNeg 19) (cnM q119)) v0 0) (Int32.toNatClampNeg 20) (cnM q125)) v0 0) (Int32.toNatClampNeg 21) (cnM q131)) 1 9).bind fun q137 => (fH_init (cnM q137) v1 q137).bind fun q138 => gd (wrT 103 q138 (grM (srM q132 (grM (srM q126 (grM (srM q120 (grM (srM q114 (grM (srM q108 (grM (srM q102 (grM (srM q96 (grM (srM q90 (grM (srM q84 (grM (srM q78 (grM (srM q72 (grM (srM q66 (grM (srM q60 (grM (srM q54 (grM (srM q48 (grM (srM q42 (grM (srM q36 (grM (srM q30 (grM (srM q24 (grM (srM q18 (grM (srM q12 (grM (srM q6 (grM (srM q1 v0 0 (cnM q1)) v0 0) (Int32.toNatClampNeg 0) (cnM q5)) v0 0) (Int32.toNatClampNeg 1) (cnM q11)) v0 0) (Int32.toNatClampNeg 2) (cnM q17)) v0 0) (Int32.toNatClampNeg 3) (cnM q23)) v0 0) (Int32.toNatClampNeg 4) (cnM q29)) v0 0) (Int32.toNatClampNeg 5) (cnM q35)) v0 0) (Int32.toNatClampNeg 6) (cnM q41)) v0 0) (Int32.toNatClampNeg 7) (cnM q47)) v0 0) (Int32.toNatClampNeg 8) (cnM q53)) v0 0) (Int32.toNatClampNeg 9) (cnM q59)) v0 0) (Int32.toNatClampNeg 10) (cnM q65)) v0 0) (Int32.toNatClampNeg 11) (cnM q71)) v0 0) (Int32.toNatClampNeg 12) (cnM q77)) v0 0) (Int32.toNatClampNeg 13) (cnM q83)) v0 0) (Int32.toNatClampNeg 14) (cnM q89)) v0 0) (Int32.toNatClampNeg 15) (cnM q95)) v0 0) (Int32.toNatClampNeg 16) (cnM q101)) v0 0) (Int32.toNatClampNeg 17) (cnM q107)) v0 0) (Int32.toNatClampNeg 18) (cnM q113)) v0 0) (Int32.toNatClampNeg 19) (cnM q119)) v0 0) (Int32.toNatClampNeg 20) (cnM q125)) v0 0) (Int32.toNatClampNeg 21) (cnM q131)) v0 0) 22) <| gd (obM q138 (cnM q137) 1 9) <| gd (obM q138 v0 4 3) <| gd (decide (grM (srM q138 (grM (srM q132 (grM (srM q126 (grM (srM q120 (grM (srM q114 (grM (srM q108 (grM (srM q102 (grM (srM q96 (grM (srM q90 (grM (srM q84 (grM (srM q78 (grM (srM q72 (grM (srM q66 (grM (srM q60 (grM (srM q54 (grM (srM q48 (grM (srM q42 (grM (srM q36 (grM (srM q30 (grM (srM q24 (grM (srM q18 (grM (srM q12 (grM (srM q6 (grM (srM q1 v0 0 (cnM q1)) v0 0) (Int32.toNatClampNeg 0) (cnM q5)) v0 0) (Int32.toNatClampNeg 1) (cnM q11)) v0 0) (Int32.toNatClampNeg 2) (cnM q17)) v0 0) (Int32.toNatClampNeg 3) (cnM q23)) v0 0) (Int32.toNatClampNeg 4) (cnM q29)) v0 0) (Int32.toNatClampNeg 5) (cnM q35)) v0 0) (Int32.toNatClampNeg 6) (cnM q41)) v0 0) (Int32.toNatClampNeg 7) (cnM q47)) v0 0) (Int32.toNatClampNeg 8) (cnM q53)) v0 0) (Int32.toNatClampNeg 9) (cnM q59)) v0 0) (Int32.toNatClampNeg 10) (cnM q65)) v0 0) (Int32.toNatClampNeg 11) (cnM q71)) v0 0) (Int32.toNatClampNeg 12) (cnM q77)) v0 0) (Int32.toNatClampNeg 13) (cnM q83)) v0 0) (Int32.toNatClampNeg 14) (cnM q89)) v0 0) (Int32.toNatClampNeg 15) (cnM q95)) v0 0) (Int32.toNatClampNeg 16) (cnM q101)) v0 0) (Int32.toNatClampNeg 17) (cnM q107)) v0 0) (Int32.toNatClampNeg 18) (cnM q113)) v0 0) (Int32.toNatClampNeg 19) (cnM q119)) v0 0) (Int32.toNatClampNeg 20) (cnM q125)) v0 0) (Int32.toNatClampNeg 21) (cnM q131)) v0 0) (Int32.toNatClampNeg 22) (cnM q137)) v0 0 ≠ 0)) <| (alF (srM q138 (grM (srM q132 (grM (srM q126 (grM (srM q120 (grM (srM q114 (grM (srM q108 (grM (srM q102 (grM (srM q96 (grM (srM q90 (grM (srM q84 (grM (srM q78 (grM (srM q72 (grM (srM q66 (grM (srM q60 (grM (srM q54 (grM (srM q48 (grM (srM q42 (grM (srM q36 (grM (srM q30 (grM (srM q24 (grM (srM q18 (grM (srM q12 (grM (srM q6 (grM (srM q1 v0 0 (cnM q1)) v0 0) (Int32.toNatClampNeg 0) (cnM q5)) v0 0) (Int32.toNatClampNeg 1) (cnM q11)) v0 0) (Int32.toNatClampNeg 2) (cnM q17)) v0 0) (Int32.toNatClampNeg 3) (cnM q23)) v0 0) (Int32.toNatClampNeg 4) (cnM q29)) v0 0) (Int32.toNatClampNeg 5) (cnM q35)) v0 0) (Int32.toNatClampNeg 6) (cnM q41)) v0 0) (Int32.toNatClampNeg 7) (cnM q47)) v0 0) (Int32.toNatClampNeg 8) (cnM q53)) v0 0) (Int32.toNatClampNeg 9) (cnM q59)) v0 0) (Int32.toNatClampNeg 10) (cnM q65)) v0 0) (Int32.toNatClampNeg 11) (cnM q71)) v0 0) (Int32.toNatClampNeg 12) (cnM q77)) v0 0) (Int32.toNatClampNeg 13) (cnM q83)) v0 0) (Int32.toNatClampNeg 14) (cnM q89)) v0 0) (Int32.toNatClampNeg 15) (cnM q95)) v0 0) (Int32.toNatClampNeg 16) (cnM q101)) v0 0) (Int32.toNatClampNeg 17) (cnM q107)) v0 0) (Int32.toNatClampNeg 18) (cnM q113)) v0 0) (Int32.toNatClampNeg 19) (cnM q119)) v0 0) (Int32.toNatClampNeg 20) (cnM q125)) v0 0) (Int32.toNatClampNeg 21) (cnM q131)) v0 0) (Int32.toNatClampNeg 22) (cnM q137)) 1 9).bind fun q143 => (fH_init (cnM q143) v1 q143).bind fun q144 => gd (wrT 103 q144 (grM (srM q138 (grM (srM q132 (grM (srM q126 (grM (srM q120 (grM (srM q114 (grM (srM q108 (grM (srM q102 (grM (srM q96 (grM (srM q90 (grM (srM q84 (grM (srM q78 (grM (srM q72 (grM (srM q66 (grM (srM q60 (grM (srM q54 (grM (srM q48 (grM (srM q42 (grM (srM q36 (grM (srM q30 (grM (srM q24 (grM (srM q18 (grM (srM q12 (grM (srM q6 (grM (srM q1 v0 0 (cnM q1)) v0 0) (Int32.toNatClampNeg 0) (cnM q5)) v0 0) (Int32.toNatClampNeg 1) (cnM q11)) v0 0) (Int32.toNatClampNeg 2) (cnM q17)) v0 0) (Int32.toNatClampNeg 3) (cnM q23)) v0 0) (Int32.toNatClampNeg 4) (cnM q29)) v0 0) (Int32.toNatClampNeg 5) (cnM q35)) v0 0) (Int32.toNatClampNeg 6) (cnM q41)) v0 0) (Int32.toNatClampNeg 7) (cnM q47)) v0 0) (Int32.toNatClampNeg 8) (cnM q53)) v0 0) (Int32.toNatClampNeg 9) (cnM q59)) v0 0) (Int32.toNatClampNeg 10) (cnM q65)) v0 0) (Int32.toNatClampNeg 11) (cnM q71)) v0 0) (Int32.toNatClampNeg 12) (cnM q77)) v0 0) (Int32.toNatClampNeg 13) (cnM q83)) v0 0) (Int32.toNatClampNeg 14) (cnM q89)) v0 0) (Int32.toNatClampNeg 15) (cnM q95)) v0 0) (Int32.toNatClampNeg 16) (cnM q101)) v0 0) (Int32.toNatClampNeg 17) (cnM q107)) v0 0) (Int32.toNatClampNeg 18) (cnM q113)) v0 0) (Int32.toNatClampNeg 19) (cnM q119)) v0 0) (Int32.toNatClampNeg 20) (cnM q125)) v0 0) (Int32.toNatClampNeg 21) (cnM q131)) v0 0) (Int32.toNatClampNeg 22) (cnM q137)) v0 0) 23) <| gd (obM q144 (cnM q143) 1 9) <| gd (obM q144 v0 4 3) <| gd (decide (grM (srM q144 (grM (srM q138 (grM (srM q132 (grM (srM q126 (grM (srM q120 (grM (srM q114 (grM (srM q108 (grM (srM q102 (grM (srM q96 (grM (srM q90 (grM (srM q84 (grM (srM q78 (grM (srM q72 (grM (srM q66 (grM (srM q60 (grM (srM q54 (grM (srM q48 (grM (srM q42 (grM (srM q36 (grM (srM q30 (grM (srM q24 (grM (srM q18 (grM (srM q12 (grM (srM q6 (grM (srM q1 v0 0 (cnM q1)) v0 0) (Int32.toNatClampNeg 0) (cnM q5)) v0 0) (Int32.toNatClampNeg 1) (cnM q11)) v0 0) (Int32.toNatClampNeg 2) (cnM q17)) v0 0) (Int32.toNatClampNeg 3) (cnM q23)) v0 0) (Int32.toNatClampNeg 4) (cnM q29)) v0 0) (Int32.toNatClampNeg 5) (cnM q35)) v0 0) (Int32.toNatClampNeg 6) (cnM q41)) v0 0) (Int32.toNatClampNeg 7) (cnM q47)) v0 0) (Int32.toNatClampNeg 8) (cnM q53)) v0 0) (Int32.toNatClampNeg 9) (cnM q59)) v0 0) (Int32.toNatClampNeg 10) (cnM q65)) v0 0) (Int32.toNatClampNeg 11) (cnM q71)) v0 0) (Int32.toNatClampNeg 12) (cnM q77)) v0 0) (Int32.toNatClampNeg 13) (cnM q83)) v0 0) (Int32.toNatClampNeg 14) (cnM q89)) v0 0) (Int32.toNatClampNeg 15) (cnM q95)) v0 0) (Int32.toNatClampNeg 16) (cnM q101)) v0 0) (Int32.toNatClampNeg 17) (cnM q107)) v0 0) (Int32.toNatClampNeg 18) (cnM q113)) v0 0) (Int32.toNatClampNeg 19) (cnM q119)) v0 0) (Int32.toNatClampNeg 20) (cnM q125)) v0 0) (Int32.toNatClampNeg 21) (cnM q131)) v0 0) (Int32.toNatClampNeg 22) (cnM q137)) v0 0) (Int32.toNatClampNeg 23) (cnM q143)) v0 0 ≠ 0)) <| (alF (srM q144 (grM (srM q138 (grM (srM q132 (grM (srM q126 (grM (srM q120 (grM (srM q114 (grM (srM q108 (grM (srM q102 (grM (srM q96 (grM (srM q90 (grM (srM q84 (grM (srM q78 (grM (srM q72 (grM (srM q66 (grM (srM q60 (grM (srM q54 (grM (srM q48 (grM (srM q42 (grM (srM q36 (grM (srM q30 (grM (srM q24 (grM (srM q18 (grM (srM q12 (grM (srM q6 (grM (srM q1 v0 0 (cnM q1)) v0 0) (Int32.toNatClampNeg 0) (cnM q5)) v0 0) (Int32.toNatClampNeg 1) (cnM q11)) v0 0) (Int32.toNatClampNeg 2) (cnM q17)) v0 0) (Int32.toNatClampNeg 3) (cnM q23)) v0 0) (Int32.toNatClampNeg 4) (cnM q29)) v0 0) (Int32.toNatClampNeg 5) (cnM q35)) v0 0) (Int32.toNatClampNeg 6) (cnM q41)) v0 0) (Int32.toNatClampNeg 7) (cnM q47)) v0 0) (Int32.toNatClampNeg 8) (cnM q53)) v0 0) (Int32.toNatClampNeg 9) (cnM q59)) v0 0) (Int32.toNatClampNeg 10) (cnM q65)) v0 0) (Int32.toNatClampNeg 11) (cnM q71)) v0 0) (Int32.toNatClampNeg 12) (cnM q77)) v0 0) (Int32.toNatClampNeg 13) (cnM q83)) v0 0) (Int32.toNatClampNeg 14) (cnM q89)) v0 0) (Int32.toNatClampNeg 15) (cnM q95)) v0 0) (Int32.toNatClampNeg 16) (cnM q101)) v0 0) (Int32.toNatClampNeg 17) (cnM q107)) v0 0) (Int32.toNatClampNeg 18) (cnM q113)) v0 0) (Int32.toNatClampNeg 19) (cnM q119)) v0 0) (Int32.toNatClampNeg 20) (cnM q125)) v0 0) (Int32.toNatClampNeg 21) (cnM q131)) v0 0) (Int32.toNatClampNeg 22) (cnM q137)) v0 0) (Int32.toNatClampNeg 23) (cnM q143)) 1 9).bind fun q149 => (fH_init (cnM q149) v1 q149).bind fun q150 => gd (wrT 103 q150 (grM (srM q144 (grM (srM q138 (grM (srM q132 (grM (srM q126 (grM (srM q120 (grM (srM q114 (grM (srM q108 (grM (srM q102 (grM (srM q96 (grM (srM q90 (grM (srM q84 (grM (srM q78 (grM (srM q72 (grM (srM q66 (grM (srM q60 (grM (srM q54 (grM (srM q48 (grM (srM q42 (grM (srM q36 (grM (srM q30 (grM (srM q24 (grM (srM q18 (grM (srM q12 (grM (srM q6 (grM (srM q1 v0 0 (cnM q1)) v0 0) (Int32.toNatClampNeg 0) (cnM q5)) v0 0) (Int32.toNatClampNeg 1) (cnM q11)) v0 0) (Int32.toNatClampNeg 2) (cnM q17)) v0 0) (Int32.toNatClampNeg 3) (cnM q23)) v0 0) (Int32.toNatClampNeg 4) (cnM q29)) v0 0) (Int32.toNatClampNeg 5) (cnM q35)) v0 0) (Int32.toNatClampNeg 6) (cnM q41)) v0 0) (Int32.toNatClampNeg 7) (cnM q47)) v0 0) (Int32.toNatClampNeg 8) (cnM q53)) v0 0) (Int32.toNatClampNeg 9) (cnM q59)) v0 0) (Int32.toNatClampNeg 10) (cnM q65)) v0 0) (Int32.toNatClampNeg 11) (cnM q71)) v0 0) (Int32.toNatClampNeg 12) (cnM q77)) v0 0) (Int32.toNatClampNeg 13) (cnM q83)) v0 0) (Int32.toNatClampNeg 14) (cnM q89)) v0 0) (Int32.toNatClampNeg 15) (cnM q95)) v0 0) (Int32.toNatClampNeg 16) (cnM q101)) v0 0) (Int32.toNatClampNeg 17) (cnM q107)) v0 0) (Int32.toNatClampNeg 18) (cnM q113)) v0 0) (Int32.toNatClampNeg 19) (cnM q119)) v0 0) (Int32.toNatClampNeg 20) (cnM q125)) v0 0) (Int32.toNatClampNeg 21) (cnM q131)) v0 0) (Int32.toNatClampNeg 22) (cnM q137)) v0 0) (Int32.toNatClampNeg 23) (cnM q143)) v0 0) 24) <| gd (obM q150 (cnM q149) 1 9) <| gd (obM q150 v0 4 3) <| gd (decide (grM (srM q150 (grM (srM q144 (grM (srM q138 (grM (srM q132 (grM (srM q126 (grM (srM q120 (grM (srM q114 (grM (srM q108 (grM (srM q102 (grM (srM q96 (grM (srM q90 (grM (srM q84 (grM (srM q78 (grM (srM q72 (grM (srM q66 (grM (srM q60 (grM (srM q54 (grM (srM q48 (grM (srM q42 (grM (srM q36 (grM (srM q30 (grM (srM q24 (grM (srM q18 (grM (srM q12 (grM (srM q6 (grM (srM q1 v0 0 (cnM q1)) v0 0) (Int32.toNatClampNeg 0) (cnM q5)) v0 0) (Int32.toNatClampNeg 1) (cnM q11)) v0 0) (Int32.toNatClampNeg 2) (cnM q17)) v0 0) (Int32.toNatClampNeg 3) (cnM q23)) v0 0) (Int32.toNatClampNeg 4) (cnM q29)) v0 0) (Int32.toNatClampNeg 5) (cnM q35)) v0 0) (Int32.toNatClampNeg 6) (cnM q41)) v0 0) (Int32.toNatClampNeg 7) (cnM q47)) v0 0) (Int32.toNatClampNeg 8) (cnM q53)) v0 0) (Int32.toNatClampNeg 9) (cnM q59)) v0 0) (Int32.toNatClampNeg 10) (cnM q65)) v0 0) (Int32.toNatClampNeg 11) (cnM q71)) v0 0) (Int32.toNatClampNeg 12) (cnM q77)) v0 0) (Int32.toNatClampNeg 13) (cnM q83)) v0 0) (Int32.toNatClampNeg 14) (cnM q89)) v0 0) (Int32.toNatClampNeg 15) (cnM q95)) v0 0) (Int32.toNatClampNeg 16) (cnM q101)) v0 0) (Int32.toNatClampNeg 17) (cnM q107)) v0 0) (Int32.toNatClampNeg 18) (cnM q113)) v0 0) (Int32.toNatClampNeg 19) (cnM q119)) v0 0) (Int32.toNatClampNeg 20) (cnM q125)) v0 0) (Int32.toNatClampNeg 21) (cnM q131)) v0 0) (Int32.toNatClampNeg 22) (cnM q137)) v0 0) (Int32.toNatClampNeg 23) (cnM q143)) v0 0) (Int32.toNatClampNeg 24) (cnM q149)) v0 0 ≠ 0)) <| (alF (srM q150 (grM (srM q144 (grM (srM q138 (grM (srM q132 (grM (srM q126 (grM (srM q120 (grM (srM q114 (grM (srM q108 (grM (srM q102 (grM (srM q96 (grM (srM q90 (grM (srM q84 (grM (srM q78 (grM (srM q72 (grM (srM q66 (grM (srM q60 (grM (srM q54 (grM (srM q48 (grM (srM q42 (grM (srM q36 (grM (srM q30 (grM (srM q24 (grM (srM q18 (grM (srM q12 (grM (srM q6 (grM (srM q1 v0 0 (cnM q1)) v0 0) (Int32.toNatClampNeg 0) (cnM q5)) v0 0) (Int32.toNatClampNeg 1) (cnM q11)) v0 0) (Int32.toNatClampNeg 2) (cnM q17)) v0 0) (Int32.toNatClampNeg 3) (cnM q23)) v0 0) (Int32.toNatClampNeg 4) (cnM q29)) v0 0) (Int32.toNatClampNeg 5) (cnM q35)) v0 0) (Int32.toNatClampNeg 6) (cnM q41)) v0 0) (Int32.toNatClampNeg 7) (cnM q47)) v0 0) (Int32.toNatClampNeg 8) (cnM q53)) v0 0) (Int32.toNatClampNeg 9) (cnM q59)) v0 0) (Int32.toNatClampNeg 10) (cnM q65)) v0 0) (Int32.toNatClampNeg 11) (cnM q71)) v0 0) (Int32.toNatClampNeg 12) (cnM q77)) v0 0) (Int32.toNatClampNeg 13) (cnM q83)) v0 0) (Int32.toNatClampNeg 14) (cnM q89)) v0 0) (Int32.toNatClampNeg 15) (cnM q95)) v0 0) (Int32.toNatClampNeg 16) (cnM q101)) v0 0) (Int32.toNatClampNeg 17) (cnM q107)) v0 0) (Int32.toNatClampNeg 18) (cnM q113)) v0 0) (Int32.toNatClampNeg 19) (cnM q119)) v0 0) (Int32.toNatClampNeg 20) (cnM q125)) v0 0) (Int32.toNatClampNeg 21) (cnM q131)) v0 0) (Int32.toNatClampNeg 22) (cnM q137)) v0 0) (Int32.toNatClampNeg 23) (cnM q143)) v0 0) (Int32.toNatClampNeg 24) (cnM q149)) 1 9).bind fun q155 => (fH_init (cnM q155) v1 q155).bind fun q156 => gd (wrT 103 q156 (grM (srM q150 (grM (srM q144 (grM (srM q138 (grM (srM q132 (grM (srM q126 (grM (srM q120 (grM (srM q114 (grM (srM q108 (grM (srM q102 (grM (srM q96 (grM (srM q90 (grM (srM q84 (grM (srM q78 (grM (srM q72 (grM (srM q66 (grM (srM q60 (grM (srM q54 (grM (srM q48 (grM (srM q42 (grM (srM q36 (grM (srM q30 (grM (srM q24 (grM (srM q18 (grM (srM q12 (grM (srM q6 (grM (srM q1 v0 0 (cnM q1)) v0 0) (Int32.toNatClampNeg 0) (cnM q5)) v0 0) (Int32.toNatClampNeg 1) (cnM q11)) v0 0) (Int32.toNatClampNeg 2) (cnM q17)) v0 0) (Int32.toNatClampNeg 3) (cnM q23)) v0 0) (Int32.toNatClampNeg 4) (cnM q29)) v0 0) (Int32.toNatClampNeg 5) (cnM q35)) v0 0) (Int32.toNatClampNeg 6) (cnM q41)) v0 0) (Int32.toNatClampNeg 7) (cnM q47)) v0 0) (Int32.toNatClampNeg 8) (cnM q53)) v0 0) (Int32.toNatClampNeg 9) (cnM q59)) v0 0) (Int32.toNatClampNeg 10) (cnM q65)) v0 0) (Int32.toNatClampNeg 11) (cnM q71)) v0 0) (Int32.toNatClampNeg 12) (cnM q77)) v0 0) (Int32.toNatClampNeg 13) (cnM q83)) v0 0) (Int32.toNatClampNeg 14) (cnM q89)) v0 0) (Int32.toNatClampNeg 15) (cnM q95)) v0 0) (Int32.toNatClampNeg 16) (cnM q101)) v0 0) (Int32.toNatClampNeg 17) (cnM q107)) v0 0) (Int32.toNatClampNeg 18) (cnM q113)) v0 0) (Int32.toNatClampNeg 19) (cnM q119)) v0 0) (Int32.toNatClampNeg 20) (cnM q125)) v0 0) (Int32.toNatClampNeg 21) (cnM q131)) v0 0) (Int32.toNatClampNeg 22) (cnM q137)) v0 0) (Int32.toNatClampNeg 23) (cnM q143)) v0 0) (Int32.toNatClampNeg 24) (cnM q149)) v0 0) 25) <| gd (obM q156 (cnM q155) 1 9) <| gd (obM q156 v0 4 3) <| gd (decide (grM (srM q156 (grM (srM q150 (grM (srM q144 (grM (srM q138 (grM (srM q132 (grM (srM q126 (grM (srM q120 (grM (srM q114 (grM (srM q108 (grM (srM q102 (grM (srM q96 (grM (srM q90 (grM (srM q84 (grM (srM q78 (grM (srM q72 (grM (srM q66 (grM (srM q60 (grM (srM q54 (grM (srM q48 (grM (srM q42 (grM (srM q36 (grM (srM q30 (grM (srM q24 (grM (srM q18 (grM (srM q12 (grM (srM q6 (grM (srM q1 v0 0 (cnM q1)) v0 0) (Int32.toNatClampNeg 0) (cnM q5)) v0 0) (Int32.toNatClampNeg 1) (cnM q11)) v0 0) (Int32.toNatClampNeg 2) (cnM q17)) v0 0) (Int32.toNatClampNeg 3) (cnM q23)) v0 0) (Int32.toNatClampNeg 4) (cnM q29)) v0 0) (Int32.toNatClampNeg 5) (cnM q35)) v0 0) (Int32.toNatClampNeg 6) (cnM q41)) v0 0) (Int32.toNatClampNeg 7) (cnM q47)) v0 0) (Int32.toNatClampNeg 8) (cnM q53)) v0 0) (Int32.toNatClampNeg 9) (cnM q59)) v0 0) (Int32.toNatClampNeg 10) (cnM q65)) v0 0) (Int32.toNatClampNeg 11) (cnM q71)) v0 0) (Int32.toNatClampNeg 12) (cnM q77)) v0 0) (Int32.toNatClampNeg 13) (cnM q83)) v0 0) (Int32.toNatClampNeg 14) (cnM q89)) v0 0) (Int32.toNatClampNeg 15) (cnM q95)) v0 0) (Int32.toNatClampNeg 16) (cnM q101)) v0 0) (Int32.toNatClampNeg 17) (cnM q107)) v0 0) (Int32.toNatClampNeg 18) (cnM q113)) v0 0) (Int32.toNatClampNeg 19) (cnM q119)) v0 0) (Int32.toNatClampNeg 20) (cnM q125)) v0 0) (Int32.toNatClampNeg 21) (cnM q131)) v0 0) (Int32.toNatClampNeg 22) (cnM q137)) v0 0) (Int32.toNatClampNeg 23) (cnM q143)) v0 0) (Int32.toNatClampNeg 24) (cnM q149)) v0 0) (Int32.toNatClampNeg 25) (cnM q155)) v0 0 ≠ 0)) <| (alF (srM q156 (grM (srM q150 (grM (srM q144 (grM (srM q138 (grM (srM q132 (grM (srM q126 (grM (srM q120 (grM (srM q114 (grM (srM q108 (grM (srM q102 (grM (srM q96 (grM (srM q90 (grM (srM q84 (grM (srM q78 (grM (srM q72 (grM (srM q66 (grM (srM q60 (grM (srM q54 (grM (srM q48 (grM (srM q42 (grM (srM q36 (grM (srM q30 (grM (srM q24 (grM (srM q18 (grM (srM q12 (grM (srM q6 (grM (srM q1 v0 0 (cnM q1)) v0 0) (Int32.toNatClampNeg 0) (cnM q5)) v0 0) (Int32.toNatClampNeg 1) (cnM q11)) v0 0) (Int32.toNatClampNeg 2) (cnM q17)) v0 0) (Int32.toNatClampNeg 3) (cnM q23)) v0 0) (Int32.toNatClampNeg 4) (cnM q29)) v0 0) (Int32.toNatClampNeg 5) (cnM q35)) v0 0) (Int32.toNatClampNeg 6) (cnM q41)) v0 0) (Int32.toNatClampNeg 7) (cnM q47)) v0 0) (Int32.toNatClampNeg 8) (cnM q53)) v0 0) (Int32.toNatClampNeg 9) (cnM q59)) v0 0) (Int32.toNatClampNeg 10) (cnM q65)) v0 0) (Int32.toNatClampNeg 11) (cnM q71)) v0 0) (Int32.toNatClampNeg 12) (cnM q77)) v0 0) (Int32.toNatClampNeg 13) (cnM q83)) v0 0) (Int32.toNatClampNeg 14) (cnM q89)) v0 0) (Int32.toNatClampNeg 15) (cnM q95)) v0 0) (Int32.toNatClampNeg 16) (cnM q101)) v0 0) (Int32.toNatClampNeg 17) (cnM q107)) v0 0) (Int32.toNatClampNeg 18) (cnM q113)) v0 0) (Int32.toNatClampNeg 19) (cnM q119)) v0 0) (Int32.toNatClampNeg 20) (cnM q125)) v0 0) (Int32.toNatClampNeg 21) (cnM q131)) v0 0) (Int32.toNatClampNeg 22) (cnM q137)) v0 0) (Int32.toNatClampNeg 23) (cnM q143)) v0 0) (Int32.toNatClampNeg 24) (cnM q149)) v0 0) (Int32.toNatClampNeg 25) (cnM q155)) 1 9).bind fun q161 => (fH_init (cnM q161) v1 q161).bind fun q162 => gd (wrT 103 q162 (grM (srM q156 (grM (srM q150 (grM (srM q144 (grM (srM q138 (grM (srM q132 (grM (srM q126 (grM (srM q120 (grM (srM q114 (grM (srM q108 (grM (srM q102 (grM (srM q96 (grM (srM q90 (grM (srM q84 (grM (srM q78 (grM (srM q72 (grM (srM q66 (grM (srM q60 (grM (srM q54 (grM (srM q48 (grM (srM q42 (grM (srM q36 (grM (srM q30 (grM (srM q24 (grM (srM q18 (grM (srM q12 (grM (srM q6 (grM (srM q1 v0 0 (cnM q1)) v0 0) (Int32.toNatClampNeg 0) (cnM q5)) v0 0) (Int32.toNatClampNeg 1) (cnM q11)) v0 0) (Int32.toNatClampNeg 2) (cnM q17)) v0 0) (Int32.toNatClampNeg 3) (cnM q23)) v0 0) (Int32.toNatClampNeg 4) (cnM q29)) v0 0) (Int32.toNatClampNeg 5) (cnM q35)) v0 0) (Int32.toNatClampNeg 6) (cnM q41)) v0 0) (Int32.toNatClampNeg 7) (cnM q47)) v0 0) (Int32.toNatClampNeg 8) (cnM q53)) v0 0) (Int32.toNatClampNeg 9) (cnM q59)) v0 0) (Int32.toNatClampNeg 10) (cnM q65)) v0 0) (Int32.toNatClampNeg 11) (cnM q71)) v0 0) (Int32.toNatClampNeg 12) (cnM q77)) v0 0) (Int32.toNatClampNeg 13) (cnM q83)) v0 0) (Int32.toNatClampNeg 14) (cnM q89)) v0 0) (Int32.toNatClampNeg 15) (cnM q95)) v0 0) (Int32.toNatClampNeg 16) (cnM q101)) v0 0) (Int32.toNatClampNeg 17) (cnM q107)) v0 0) (Int32.toNatClampNeg 18) (cnM q113)) v0 0) (Int32.toNatClampNeg 19) (cnM q119)) v0 0) (Int32.toNatClampNeg 20) (cnM q125)) v0 0) (Int32.toNatClampNeg 21) (cnM q131)) v0 0) (Int32.toNatClampNeg 22) (cnM q137)) v0 0) (Int32.toNatClampNeg 23) (cnM q143)) v0 0) (Int32.toNatClampNeg 24) (cnM q149)) v0 0) (Int32.toNatClampNeg 25) (cnM q155)) v0 0) 26) <| gd (obM q162 (cnM q161) 1 9) <| gd (obM q162 v0 4 3) <| gd (decide (grM (srM q162 (grM (srM q156 (grM (srM q150 (grM (srM q144 (grM (srM q138 (grM (srM q132 (grM (srM q126 (grM (srM q120 (grM (srM q114 (grM (srM q108 (grM (srM q102 (grM (srM q96 (grM (srM q90 (grM (srM q84 (grM (srM q78 (grM (srM q72 (grM (srM q66 (grM (srM q60 (grM (srM q54 (grM (srM q48 (grM (srM q42 (grM (srM q36 (grM (srM q30 (grM (srM q24 (grM (srM q18 (grM (srM q12 (grM (srM q6 (grM (srM q1 v0 0 (cnM q1)) v0 0) (Int32.toNatClampNeg 0) (cnM q5)) v0 0) (Int32.toNatClampNeg 1) (cnM q11)) v0 0) (Int32.toNatClampNeg 2) (cnM q17)) v0 0) (Int32.toNatClampNeg 3) (cnM q23)) v0 0) (Int32.toNatClampNeg 4) (cnM q29)) v0 0) (Int32.toNatClampNeg 5) (cnM q35)) v0 0) (Int32.toNatClampNeg 6) (cnM q41)) v0 0) (Int32.toNatClampNeg 7) (cnM q47)) v0 0) (Int32.toNatClampNeg 8) (cnM q53)) v0 0) (Int32.toNatClampNeg 9) (cnM q59)) v0 0) (Int32.toNatClampNeg 10) (cnM q65)) v0 0) (Int32.toNatClampNeg 11) (cnM q71)) v0 0) (Int32.toNatClampNeg 12) (cnM q77)) v0 0) (Int32.toNatClampNeg 13) (cnM q83)) v0 0) (Int32.toNatClampNeg 14) (cnM q89)) v0 0) (Int32.toNatClampNeg 15) (cnM q95)) v0 0) (Int32.toNatClampNeg 16) (cnM q101)) v0 0) (Int32.toNatClampNeg 17) (cnM q107)) v0 0) (Int32.toNatClampNeg 18) (cnM q113)) v0 0) (Int32.toNatClampNeg 19) (cnM q119)) v0 0) (Int32.toNatClampNeg 20) (cnM q125)) v0 0) (Int32.toNatClampNeg 21) (cnM q131)) v0 0) (Int32.toNatClampNeg 22) (cnM q137)) v0 0) (Int32.toNatClampNeg 23) (cnM q143)) v0 0) (Int32.toNatClampNeg 24) (cnM q149)) v0 0) (Int32.toNatClampNeg 25) (cnM q155)) v0 0) (Int32.toNatClampNeg 26) (cnM q161)) v0 0 ≠ 0)) <| (alF (srM q162 (grM (srM q156 (grM (srM q150 (grM (srM q144 (grM (srM q138 (grM (srM q132 (grM (srM q126 (grM (srM q120 (grM (srM q114 (grM (srM q108 (grM (srM q102 (grM (srM q96 (grM (srM q90 (grM (srM q84 (grM (srM q78 (grM (srM q72 (grM (srM q66 (grM (srM q60 (grM (srM q54 (grM (srM q48 (grM (srM q42 (grM (srM q36 (grM (srM q30 (grM (srM q24 (grM (srM q18 (grM (srM q12 (grM (srM q6 (grM (srM q1 v0 0 (cnM q1)) v0 0) (Int32.toNatClampNeg 0) (cnM q5)) v0 0) (Int32.toNatClampNeg 1) (cnM q11)) v0 0) (Int32.toNatClampNeg 2) (cnM q17)) v0 0) (Int32.toNatClampNeg 3) (cnM q23)) v0 0) (Int32.toNatClampNeg 4) (cnM q29)) v0 0) (Int32.toNatClampNeg 5) (cnM q35)) v0 0) (Int32.toNatClampNeg 6) (cnM q41)) v0 0) (Int32.toNatClampNeg 7) (cnM q47)) v0 0) (Int32.toNatClampNeg 8) (cnM q53)) v0 0) (Int32.toNatClampNeg 9) (cnM q59)) v0 0) (Int32.toNatClampNeg 10) (cnM q65)) v0 0) (Int32.toNatClampNeg 11) (cnM q71)) v0 0) (Int32.toNatClampNeg 12) (cnM q77)) v0 0) (Int32.toNatClampNeg 13) (cnM q83)) v0 0) (Int32.toNatClampNeg 14) (cnM q89)) v0 0) (Int32.toNatClampNeg 15) (cnM q95)) v0 0) (Int32.toNatClampNeg 16) (cnM q101)) v0 0) (Int32.toNatClampNeg 17) (cnM q107)) v0 0) (Int32.toNatClampNeg 18) (cnM q113)) v0 0) (Int32.toNatClampNeg 19) (cnM q119)) v0 0) (Int32.toNatClampNeg 20) (cnM q125)) v0 0) (Int32.toNatClampNeg 21) (cnM q131)) v0 0) (Int32.toNatClampNeg 22) (cnM q137)) v0 0) (Int32.toNatClampNeg 23) (cnM q143)) v0 0) (Int32.toNatClampNeg 24) (cnM q149)) v0 0) (Int32.toNatClampNeg 25) (cnM q155)) v0 0) (Int32.toNatClampNeg 26) (cnM q161)) 1 9).bind fun q167 => (fH_init (cnM q167) v1 q167).bind fun q168 => gd (wrT 103 q168 (grM (srM q162 (grM (srM q156 (grM (srM q150 (grM (srM q144 (grM (srM q138 (grM (srM q132 (grM (srM q126 (grM (srM q120 (grM (srM q114 (grM (srM q108 (grM (srM q102 (grM (srM q96 (grM (srM q90 (grM (srM q84 (grM (srM q78 (grM (srM q72 (grM (srM q66 (grM (srM q60 (grM (srM q54 (grM (srM q48 (grM (srM q42 (grM (srM q36 (grM (srM q30 (grM (srM q24 (grM (srM q18 (grM (srM q12 (grM (srM q6 (grM (srM q1 v0 0 (cnM q1)) v0 0) (Int32.toNatClampNeg 0) (cnM q5)) v0 0) (Int32.toNatClampNeg 1) (cnM q11)) v0 0) (Int32.toNatClampNeg 2) (cnM q17)) v0 0) (Int32.toNatClampNeg 3) (cnM q23)) v0 0) (Int32.toNatClampNeg 4) (cnM q29)) v0 0) (Int32.toNatClampNeg 5) (cnM q35)) v0 0) (Int32.toNatClampNeg 6) (cnM q41)) v0 0) (Int32.toNatClampNeg 7) (cnM q47)) v0 0) (Int32.toNatClampNeg 8) (cnM q53)) v0 0) (Int32.toNatClampNeg 9) (cnM q59)) v0 0) (Int32.toNatClampNeg 10) (cnM q65)) v0 0) (Int32.toNatClampNeg 11) (cnM q71)) v0 0) (Int32.toNatClampNeg 12) (cnM q77)) v0 0) (Int32.toNatClampNeg 13) (cnM q83)) v0 0) (Int32.toNatClampNeg 14) (cnM q89)) v0 0) (Int32.toNatClampNeg 15) (cnM q95)) v0 0) (Int32.toNatClampNeg 16) (cnM q101)) v0 0) (Int32.toNatClampNeg 17) (cnM q107)) v0 0) (Int32.toNatClampNeg 18) (cnM q113)) v0 0) (Int32.toNatClampNeg 19) (cnM q119)) v0 0) (Int32.toNatClampNeg 20) (cnM q125)) v0 0) (Int32.toNatClampNeg 21) (cnM q131)) v0 0) (Int32.toNatClampNeg 22) (cnM q137)) v0 0) (Int32.toNatClampNeg 23) (cnM q143)) v0 0) (Int32.toNatClampNeg 24) (cnM q149)) v0 0) (Int32.toNatClampNeg 25) (cnM q155)) v0 0) (Int32.toNatClampNeg 26) (cnM q161)) v0 0) 27) <| gd (obM q168 (cnM q167) 1 9) <| gd (obM q168 v0 4 3) <| gd (decide (grM (srM q168 (grM (srM q162 (grM (srM q156 (grM (srM q150 (grM (srM q144 (grM (srM q138 (grM (srM q132 (grM (srM q126 (grM (srM q120 (grM (srM q114 (grM (srM q108 (grM (srM q102 (grM (srM q96 (grM (srM q90 (grM (srM q84 (grM (srM q78 (grM (srM q72 (grM (srM q66 (grM (srM q60 (grM (srM q54 (grM (srM q48 (grM (srM q42 (grM (srM q36 (grM (srM q30 (grM (srM q24 (grM (srM q18 (grM (srM q12 (grM (srM q6 (grM (srM q1 v0 0 (cnM q1)) v0 0) (Int32.toNatClampNeg 0) (cnM q5)) v0 0) (Int32.toNatClampNeg 1) (cnM q11)) v0 0) (Int32.toNatClampNeg 2) (cnM q17)) v0 0) (Int32.toNatClampNeg 3) (cnM q23)) v0 0) (Int32.toNatClampNeg 4) (cnM q29)) v0 0) (Int32.toNatClampNeg 5) (cnM q35)) v0 0) (Int32.toNatClampNeg 6) (cnM q41)) v0 0) (Int32.toNatClampNeg 7) (cnM q47)) v0 0) (Int32.toNatClampNeg 8) (cnM q53)) v0 0) (Int32.toNatClampNeg 9) (cnM q59)) v0 0) (Int32.toNatClampNeg 10) (cnM q65)) v0 0) (Int32.toNatClampNeg 11) (cnM q71)) v0 0) (Int32.toNatClampNeg 12) (cnM q77)) v0 0) (Int32.toNatClampNeg 13) (cnM q83)) v0 0) (Int32.toNatClampNeg 14) (cnM q89)) v0 0) (Int32.toNatClampNeg 15) (cnM q95)) v0 0) (Int32.toNatClampNeg 16) (cnM q101)) v0 0) (Int32.toNatClampNeg 17) (cnM q107)) v0 0) (Int32.toNatClampNeg 18) (cnM q113)) v0 0) (Int32.toNatClampNeg 19) (cnM q119)) v0 0) (Int32.toNatClampNeg 20) (cnM q125)) v0 0) (Int32.toNatClampNeg 21) (cnM q131)) v0 0) (Int32.toNatClampNeg 22) (cnM q137)) v0 0) (Int32.toNatClampNeg 23) (cnM q143)) v0 0) (Int32.toNatClampNeg 24) (cnM q149)) v0 0) (Int32.toNatClampNeg 25) (cnM q155)) v0 0) (Int32.toNatClampNeg 26) (cnM q161)) v0 0) (Int32.toNatClampNeg 27) (cnM q167)) v0 0 ≠ 0)) <| (alF (srM q168 (grM (srM q162 (grM (srM q156 (grM (srM q150 (grM (srM q144 (grM (srM q138 (grM (srM q132 (grM (srM q126 (grM (srM q120 (grM (srM q114 (grM (srM q108 (grM (srM q102 (grM (srM q96 (grM (srM q90 (grM (srM q84 (grM (srM q78 (grM (srM q72 (grM (srM q66 (grM (srM q60 (grM (srM q54 (grM (srM q48 (grM (srM q42 (grM (srM q36 (grM (srM q30 (grM (srM q24 (grM (srM q18 (grM (srM q12 (grM (srM q6 (grM (srM q1 v0 0 (cnM q1)) v0 0) (Int32.toNatClampNeg 0) (cnM q5)) v0 0) (Int32.toNatClampNeg 1) (cnM q11)) v0 0) (Int32.toNatClampNeg 2) (cnM q17)) v0 0) (Int32.toNatClampNeg 3) (cnM q23)) v0 0) (Int32.toNatClampNeg 4) (cnM q29)) v0 0) (Int32.toNatClampNeg 5) (cnM q35)) v0 0) (Int32.toNatClampNeg 6) (cnM q41)) v0 0) (Int32.toNatClampNeg 7) (cnM q47)) v0 0) (Int32.toNatClampNeg 8) (cnM q53)) v0 0) (Int32.toNatClampNeg 9) (cnM q59)) v0 0) (Int32.toNatClampNeg 10) (cnM q65)) v0 0) (Int32.toNatClampNeg 11) (cnM q71)) v0 0) (Int32.toNatClampNeg 12) (cnM q77)) v0 0) (Int32.toNatClampNeg 13) (cnM q83)) v0 0) (Int32.toNatClampNeg 14) (cnM q89)) v0 0) (Int32.toNatClampNeg 15) (cnM q95)) v0 0) (Int32.toNatClampNeg 16) (cnM q101)) v0 0) (Int32.toNatClampNeg 17) (cnM q107)) v0 0) (Int32.toNatClampNeg 18) (cnM q113)) v0 0) (Int32.toNatClampNeg 19) (cnM q119)) v0 0) (Int32.toNatClampNeg 20) (cnM q125)) v0 0) (Int32.toNatClampNeg 21) (cnM q131)) v0 0) (Int32.toNatClampNeg 22) (cnM q137)) v0 0) (Int32.toNatClampNeg 23) (cnM q143)) v0 0) (Int32.toNatClampNeg 24) (cnM q149)) v0 0) (Int32.toNatClampNeg 25) (cnM q155)) v0 0) (Int32.toNatClampNeg 26) (cnM q161)) v0 0) (Int32.toNatClampNeg 27) (cnM q167)) 1 9).bind fun q173 => (fH_init (cnM q173) v1 q173).bind fun q174 => gd (wrT 103 q174 (grM (srM q168 (grM (srM q162 (grM (srM q156 (grM (srM q150 (grM (srM q144 (grM (srM q138 (grM (srM q132 (grM (srM q126 (grM (srM q120 (grM (srM q114 (grM (srM q108 (grM (srM q102 (grM (srM q96 (grM (srM q90 (grM (srM q84 (grM (srM q78 (grM (srM q72 (grM (srM q66 (grM (srM q60 (grM (srM q54 (grM (srM q48 (grM (srM q42 (grM (srM q36 (grM (srM q30 (grM (srM q24 (grM (srM q18 (grM (srM q12 (grM (srM q6 (grM (srM q1 v0 0 (cnM q1)) v0 0) (Int32.toNatClampNeg 0) (cnM q5)) v0 0) (Int32.toNatClampNeg 1) (cnM q11)) v0 0) (Int32.toNatClampNeg 2) (cnM q17)) v0 0) (Int32.toNatClampNeg 3) (cnM q23)) v0 0) (Int32.toNatClampNeg 4) (cnM q29)) v0 0) (Int32.toNatClampNeg 5) (cnM q35)) v0 0) (Int32.toNatClampNeg 6) (cnM q41)) v0 0) (Int32.toNatClampNeg 7) (cnM q47)) v0 0) (Int32.toNatClampNeg 8) (cnM q53)) v0 0) (Int32.toNatClampNeg 9) (cnM q59)) v0 0) (Int32.toNatClampNeg 10) (cnM q65)) v0 0) (Int32.toNatClampNeg 11) (cnM q71)) v0 0) (Int32.toNatClampNeg 12) (cnM q77)) v0 0) (Int32.toNatClampNeg 13) (cnM q83)) v0 0) (Int32.toNatClampNeg 14) (cnM q89)) v0 0) (Int32.toNatClampNeg 15) (cnM q95)) v0 0) (Int32.toNatClampNeg 16) (cnM q101)) v0 0) (Int32.toNatClampNeg 17) (cnM q107)) v0 0) (Int32.toNatClampNeg 18) (cnM q113)) v0 0) (Int32.toNatClampNeg 19) (cnM q119)) v0 0) (Int32.toNatClampNeg 20) (cnM q125)) v0 0) (Int32.toNatClampNeg 21) (cnM q131)) v0 0) (Int32.toNatClampNeg 22) (cnM q137)) v0 0) (Int32.toNatClampNeg 23) (cnM q143)) v0 0) (Int32.toNatClampNeg 24) (cnM q149)) v0 0) (Int32.toNatClampNeg 25) (cnM q155)) v0 0) (Int32.toNatClampNeg 26) (cnM q161)) v0 0) (Int32.toNatClampNeg 27) (cnM q167)) v0 0) 28) <| gd (obM q174 (cnM q173) 1 9) <| gd (obM q174 v0 4 3) <| gd (decide (grM (srM q174 (grM (srM q168 (grM (srM q162 (grM (srM q156 (grM (srM q150 (grM (srM q144 (grM (srM q138 (grM (srM q132 (grM (srM q126 (grM (srM q120 (grM (srM q114 (grM (srM q108 (grM (srM q102 (grM (srM q96 (grM (srM q90 (grM (srM q84 (grM (srM q78 (grM (srM q72 (grM (srM q66 (grM (srM q60 (grM (srM q54 (grM (srM q48 (grM (srM q42 (grM (srM q36 (grM (srM q30 (grM (srM q24 (grM (srM q18 (grM (srM q12 (grM (srM q6 (grM (srM q1 v0 0 (cnM q1)) v0 0) (Int32.toNatClampNeg 0) (cnM q5)) v0 0) (Int32.toNatClampNeg 1) (cnM q11)) v0 0) (Int32.toNatClampNeg 2) (cnM q17)) v0 0) (Int32.toNatClampNeg 3) (cnM q23)) v0 0) (Int32.toNatClampNeg 4) (cnM q29)) v0 0) (Int32.toNatClampNeg 5) (cnM q35)) v0 0) (Int32.toNatClampNeg 6) (cnM q41)) v0 0) (Int32.toNatClampNeg 7) (cnM q47)) v0 0) (Int32.toNatClampNeg 8) (cnM q53)) v0 0) (Int32.toNatClampNeg 9) (cnM q59)) v0 0) (Int32.toNatClampNeg 10) (cnM q65)) v0 0) (Int32.toNatClampNeg 11) (cnM q71)) v0 0) (Int32.toNatClampNeg 12) (cnM q77)) v0 0) (Int32.toNatClampNeg 13) (cnM q83)) v0 0) (Int32.toNatClampNeg 14) (cnM q89)) v0 0) (Int32.toNatClampNeg 15) (cnM q95)) v0 0) (Int32.toNatClampNeg 16) (cnM q101)) v0 0) (Int32.toNatClampNeg 17) (cnM q107)) v0 0) (Int32.toNatClampNeg 18) (cnM q113)) v0 0) (Int32.toNatClampNeg 19) (cnM q119)) v0 0) (Int32.toNatClampNeg 20) (cnM q125)) v0 0) (Int32.toNatClampNeg 21) (cnM q131)) v0 0) (Int32.toNatClampNeg 22) (cnM q137)) v0 0) (Int32.toNatClampNeg 23) (cnM q143)) v0 0) (Int32.toNatClampNeg 24) (cnM q149)) v0 0) (Int32.toNatClampNeg 25) (cnM q155)) v0 0) (Int32.toNatClampNeg 26) (cnM q161)) v0 0) (Int32.toNatClampNeg 27) (cnM q167)) v0 0) (Int32.toNatClampNeg 28) (cnM q173)) v0 0 ≠ 0)) <| (alF (srM q174 (grM (srM q168 (grM (srM q162 (grM (srM q156 (grM (srM q150 (grM (srM q144 (grM (srM q138 (grM (srM q132 (grM (srM q126 (grM (srM q120 (grM (srM q114 (grM (srM q108 (grM (srM q102 (grM (srM q96 (grM (srM q90 (grM (srM q84 (grM (srM q78 (grM (srM q72 (grM (srM q66 (grM (srM q60 (grM (srM q54 (grM (srM q48 (grM (srM q42 (grM (srM q36 (grM (srM q30 (grM (srM q24 (grM (srM q18 (grM (srM q12 (grM (srM q6 (grM (srM q1 v0 0 (cnM q1)) v0 0) (Int32.toNatClampNeg 0) (cnM q5)) v0 0) (Int32.toNatClampNeg 1) (cnM q11)) v0 0) (Int32.toNatClampNeg 2) (cnM q17)) v0 0) (Int32.toNatClampNeg 3) (cnM q23)) v0 0) (Int32.toNatClampNeg 4) (cnM q29)) v0 0) (Int32.toNatClampNeg 5) (cnM q35)) v0 0) (Int32.toNatClampNeg 6) (cnM q41)) v0 0) (Int32.toNatClampNeg 7) (cnM q47)) v0 0) (Int32.toNatClampNeg 8) (cnM q53)) v0 0) (Int32.toNatClampNeg 9) (cnM q59)) v0 0) (Int32.toNatClampNeg 10) (cnM q65)) v0 0) (Int32.toNatClampNeg 11) (cnM q71)) v0 0) (Int32.toNatClampNeg 12) (cnM q77)) v0 0) (Int32.toNatClampNeg 13) (cnM q83)) v0 0) (Int32.toNatClampNeg 14) (cnM q89)) v0 0) (Int32.toNatClampNeg 15) (cnM q95)) v0 0) (Int32.toNatClampNeg 16) (cnM q101)) v0 0) (Int32.toNatClampNeg 17) (cnM q107)) v0 0) (Int32.toNatClampNeg 18) (cnM q113)) v0 0) (Int32.toNatClampNeg 19) (cnM q119)) v0 0) (Int32.toNatClampNeg 20) (cnM q125)) v0 0) (Int32.toNatClampNeg 21) (cnM q131)) v0 0) (Int32.toNatClampNeg 22) (cnM q137)) v0 0) (Int32.toNatClampNeg 23) (cnM q143)) v0 0) (Int32.toNatClampNeg 24) (cnM q149)) v0 0) (Int32.toNatClampNeg 25) (cnM q155)) v0 0) (Int32.toNatClampNeg 26) (cnM q161)) v0 0) (Int32.toNatClampNeg 27) (cnM q167)) v0 0) (Int32.toNatClampNeg 28) (cnM q173)) 1 9).bind fun q179 => (fH_init (cnM q179) v1 q179).bind fun q180 => gd (wrT 103 q180 (grM (srM q174 (grM (srM q168 (grM (srM q162 (grM (srM q156 (grM (srM q150 (grM (srM q144 (grM (srM q138 (grM (srM q132 (grM (srM q126 (grM (srM q120 (grM (srM q114 (grM (srM q108 (grM (srM q102 (grM (srM q96 (grM (srM q90 (grM (srM q84 (grM (srM q78 (grM (srM q72 (grM (srM q66 (grM (srM q60 (grM (srM q54 (grM (srM q48 (grM (srM q42 (grM (srM q36 (grM (srM q30 (grM (srM q24 (grM (srM q18 (grM (srM q12 (grM (srM q6 (grM (srM q1 v0 0 (cnM q1)) v0 0) (Int32.toNatClampNeg 0) (cnM q5)) v0 0) (Int32.toNatClampNeg 1) (cnM q11)) v0 0) (Int32.toNatClampNeg 2) (cnM q17)) v0 0) (Int32.toNatClampNeg 3) (cnM q23)) v0 0) (Int32.toNatClampNeg 4) (cnM q29)) v0 0) (Int32.toNatClampNeg 5) (cnM q35)) v0 0) (Int32.toNatClampNeg 6) (cnM q41)) v0 0) (Int32.toNatClampNeg 7) (cnM q47)) v0 0) (Int32.toNatClampNeg 8) (cnM q53)) v0 0) (Int32.toNatClampNeg 9) (cnM q59)) v0 0) (Int32.toNatClampNeg 10) (cnM q65)) v0 0) (Int32.toNatClampNeg 11) (cnM q71)) v0 0) (Int32.toNatClampNeg 12) (cnM q77)) v0 0) (Int32.toNatClampNeg 13) (cnM q83)) v0 0) (Int32.toNatClampNeg 14) (cnM q89)) v0 0) (Int32.toNatClampNeg 15) (cnM q95)) v0 0) (Int32.toNatClampNeg 16) (cnM q101)) v0 0) (Int32.toNatClampNeg 17) (cnM q107)) v0 0) (Int32.toNatClampNeg 18) (cnM q113)) v0 0) (Int32.toNatClampNeg 19) (cnM q119)) v0 0) (Int32.toNatClampNeg 20) (cnM q125)) v0 0) (Int32.toNatClampNeg 21) (cnM q131)) v0 0) (Int32.toNatClampNeg 22) (cnM q137)) v0 0) (Int32.toNatClampNeg 23) (cnM q143)) v0 0) (Int32.toNatClampNeg 24) (cnM q149)) v0 0) (Int32.toNatClampNeg 25) (cnM q155)) v0 0) (Int32.toNatClampNeg 26) (cnM q161)) v0 0) (Int32.toNatClampNeg 27) (cnM q167)) v0 0) (Int32.toNatClampNeg 28) (cnM q173)) v0 0) 29) <| gd (obM q180 (cnM q179) 1 9) <| gd (obM q180 v0 4 3) <| gd (decide (grM (srM q180 (grM (srM q174 (grM (srM q168 (grM (srM q162 (grM (srM q156 (grM (srM q150 (grM (srM q144 (grM (srM q138 (grM (srM q132 (grM (srM q126 (grM (srM q120 (grM (srM q114 (grM (srM q108 (grM (srM q102 (grM (srM q96 (grM (srM q90 (grM (srM q84 (grM (srM q78 (grM (srM q72 (grM (srM q66 (grM (srM q60 (grM (srM q54 (grM (srM q48 (grM (srM q42 (grM (srM q36 (grM (srM q30 (grM (srM q24 (grM (srM q18 (grM (srM q12 (grM (srM q6 (grM (srM q1 v0 0 (cnM q1)) v0 0) (Int32.toNatClampNeg 0) (cnM q5)) v0 0) (Int32.toNatClampNeg 1) (cnM q11)) v0 0) (Int32.toNatClampNeg 2) (cnM q17)) v0 0) (Int32.toNatClampNeg 3) (cnM q23)) v0 0) (Int32.toNatClampNeg 4) (cnM q29)) v0 0) (Int32.toNatClampNeg 5) (cnM q35)) v0 0) (Int32.toNatClampNeg 6) (cnM q41)) v0 0) (Int32.toNatClampNeg 7) (cnM q47)) v0 0) (Int32.toNatClampNeg 8) (cnM q53)) v0 0) (Int32.toNatClampNeg 9) (cnM q59)) v0 0) (Int32.toNatClampNeg 10) (cnM q65)) v0 0) (Int32.toNatClampNeg 11) (cnM q71)) v0 0) (Int32.toNatClampNeg 12) (cnM q77)) v0 0) (Int32.toNatClampNeg 13) (cnM q83)) v0 0) (Int32.toNatClampNeg 14) (cnM q89)) v0 0) (Int32.toNatClampNeg 15) (cnM q95)) v0 0) (Int32.toNatClampNeg 16) (cnM q101)) v0 0) (Int32.toNatClampNeg 17) (cnM q107)) v0 0) (Int32.toNatClampNeg 18) (cnM q113)) v0 0) (Int32.toNatClampNeg 19) (cnM q119)) v0 0) (Int32.toNatClampNeg 20) (cnM q125)) v0 0) (Int32.toNatClampNeg 21) (cnM q131)) v0 0) (Int32.toNatClampNeg 22) (cnM q137)) v0 0) (Int32.toNatClampNeg 23) (cnM q143)) v0 0) (Int32.toNatClampNeg 24) (cnM q149)) v0 0) (Int32.toNatClampNeg 25) (cnM q155)) v0 0) (Int32.toNatClampNeg 26) (cnM q161)) v0 0) (Int32.toNatClampNeg 27) (cnM q167)) v0 0) (Int32.toNatClampNeg 28) (cnM q173)) v0 0) (Int32.toNatClampNeg 29) (cnM q179)) v0 0 ≠ 0)) <| (alF (srM q180 (grM (srM q174 (grM (srM q168 (grM (srM q162 (grM (srM q156 (grM (srM q150 (grM (srM q144 (grM (srM q138 (grM (srM q132 (grM (srM q126 (grM (srM q120 (grM (srM q114 (grM (srM q108 (grM (srM q102 (grM (srM q96 (grM (srM q90 (grM (srM q84 (grM (srM q78 (grM (srM q72 (grM (srM q66 (grM (srM q60 (grM (srM q54 (grM (srM q48 (grM (srM q42 (grM (srM q36 (grM (srM q30 (grM (srM q24 (grM (srM q18 (grM (srM q12 (grM (srM q6 (grM (srM q1 v0 0 (cnM q1)) v0 0) (Int32.toNatClampNeg 0) (cnM q5)) v0 0) (Int32.toNatClampNeg 1) (cnM q11)) v0 0) (Int32.toNatClampNeg 2) (cnM q17)) v0 0) (Int32.toNatClampNeg 3) (cnM q23)) v0 0) (Int32.toNatClampNeg 4) (cnM q29)) v0 0) (Int32.toNatClampNeg 5) (cnM q35)) v0 0) (Int32.toNatClampNeg 6) (cnM q41)) v0 0) (Int32.toNatClampNeg 7) (cnM q47)) v0 0) (Int32.toNatClampNeg 8) (cnM q53)) v0 0) (Int32.toNatClampNeg 9) (cnM q59)) v0 0) (Int32.toNatClampNeg 10) (cnM q65)) v0 0) (Int32.toNatClampNeg 11) (cnM q71)) v0 0) (Int32.toNatClampNeg 12) (cnM q77)) v0 0) (Int32.toNatClampNeg 13) (cnM q83)) v0 0) (Int32.toNatClampNeg 14) (cnM q89)) v0 0) (Int32.toNatClampNeg 15) (cnM q95)) v0 0) (Int32.toNatClampNeg 16) (cnM q101)) v0 0) (Int32.toNatClampNeg 17) (cnM q107)) v0 0) (Int32.toNatClampNeg 18) (cnM q113)) v0 0) (Int32.toNatClampNeg 19) (cnM q119)) v0 0) (Int32.toNatClampNeg 20) (cnM q125)) v0 0) (Int32.toNatClampNeg 21) (cnM q131)) v0 0) (Int32.toNatClampNeg 22) (cnM q137)) v0 0) (Int32.toNatClampNeg 23) (cnM q143)) v0 0) (Int32.toNatClampNeg 24) (cnM q149)) v0 0) (Int32.toNatClampNeg 25) (cnM q155)) v0 0) (Int32.toNatClampNeg 26) (cnM q161)) v0 0) (Int32.toNatClampNeg 27) (cnM q167)) v0 0) (Int32.toNatClampNeg 28) (cnM q173)) v0 0) (Int32.toNatClampNeg 29) (cnM q179)) 1 9).bind fun q185 => (fH_init (cnM q185) v1 q185).bind fun q186 => gd (wrT 103 q186 (grM (srM q180 (grM (srM q174 (grM (srM q168 (grM (srM q162 (grM (srM q156 (grM (srM q150 (grM (srM q144 (grM (srM q138 (grM (srM q132 (grM (srM q126 (grM (srM q120 (grM (srM q114 (grM (srM q108 (grM (srM q102 (grM (srM q96 (grM (srM q90 (grM (srM q84 (grM (srM q78 (grM (srM q72 (grM (srM q66 (grM (srM q60 (grM (srM q54 (grM (srM q48 (grM (srM q42 (grM (srM q36 (grM (srM q30 (grM (srM q24 (grM (srM q18 (grM (srM q12 (grM (srM q6 (grM (srM q1 v0 0 (cnM q1)) v0 0) (Int32.toNatClampNeg 0) (cnM q5)) v0 0) (Int32.toNatClampNeg 1) (cnM q11)) v0 0) (Int32.toNatClampNeg 2) (cnM q17)) v0 0) (Int32.toNatClampNeg 3) (cnM q23)) v0 0) (Int32.toNatClampNeg 4) (cnM q29)) v0 0) (Int32.toNatClampNeg 5) (cnM q35)) v0 0) (Int32.toNatClampNeg 6) (cnM q41)) v0 0) (Int32.toNatClampNeg 7) (cnM q47)) v0 0) (Int32.toNatClampNeg 8) (cnM q53)) v0 0) (Int32.toNatClampNeg 9) (cnM q59)) v0 0) (Int32.toNatClampNeg 10) (cnM q65)) v0 0) (Int32.toNatClampNeg 11) (cnM q71)) v0 0) (Int32.toNatClampNeg 12) (cnM q77)) v0 0) (Int32.toNatClampNeg 13) (cnM q83)) v0 0) (Int32.toNatClampNeg 14) (cnM q89)) v0 0) (Int32.toNatClampNeg 15) (cnM q95)) v0 0) (Int32.toNatClampNeg 16) (cnM q101)) v0 0) (Int32.toNatClampNeg 17) (cnM q107)) v0 0) (Int32.toNatClampNeg 18) (cnM q113)) v0 0) (Int32.toNatClampNeg 19) (cnM q119)) v0 0) (Int32.toNatClampNeg 20) (cnM q125)) v0 0) (Int32.toNatClampNeg 21) (cnM q131)) v0 0) (Int32.toNatClampNeg 22) (cnM q137)) v0 0) (Int32.toNatClampNeg 23) (cnM q143)) v0 0) (Int32.toNatClampNeg 24) (cnM q149)) v0 0) (Int32.toNatClampNeg 25) (cnM q155)) v0 0) (Int32.toNatClampNeg 26) (cnM q161)) v0 0) (Int32.toNatClampNeg 27) (cnM q167)) v0 0) (Int32.toNatClampNeg 28) (cnM q173)) v0 0) (Int32.toNatClampNeg 29) (cnM q179)) v0 0) 30) <| gd (obM q186 (cnM q185) 1 9) <| gd (obM q186 v0 4 3) <| gd (decide (grM (srM q186 (grM (srM q180 (grM (srM q174 (grM (srM q168 (grM (srM q162 (grM (srM q156 (grM (srM q150 (grM (srM q144 (grM (srM q138 (grM (srM q132 (grM (srM q126 (grM (srM q120 (grM (srM q114 (grM (srM q108 (grM (srM q102 (grM (srM q96 (grM (srM q90 (grM (srM q84 (grM (srM q78 (grM (srM q72 (grM (srM q66 (grM (srM q60 (grM (srM q54 (grM (srM q48 (grM (srM q42 (grM (srM q36 (grM (srM q30 (grM (srM q24 (grM (srM q18 (grM (srM q12 (grM (srM q6 (grM (srM q1 v0 0 (cnM q1)) v0 0) (Int32.toNatClampNeg 0) (cnM q5)) v0 0) (Int32.toNatClampNeg 1) (cnM q11)) v0 0) (Int32.toNatClampNeg 2) (cnM q17)) v0 0) (Int32.toNatClampNeg 3) (cnM q23)) v0 0) (Int32.toNatClampNeg 4) (cnM q29)) v0 0) (Int32.toNatClampNeg 5) (cnM q35)) v0 0) (Int32.toNatClampNeg 6) (cnM q41)) v0 0) (Int32.toNatClampNeg 7) (cnM q47)) v0 0) (Int32.toNatClampNeg 8) (cnM q53)) v0 0) (Int32.toNatClampNeg 9) (cnM q59)) v0 0) (Int32.toNatClampNeg 10) (cnM q65)) v0 0) (Int32.toNatClampNeg 11) (cnM q71)) v0 0) (Int32.toNatClampNeg 12) (cnM q77)) v0 0) (Int32.toNatClampNeg 13) (cnM q83)) v0 0) (Int32.toNatClampNeg 14) (cnM q89)) v0 0) (Int32.toNatClampNeg 15) (cnM q95)) v0 0) (Int32.toNatClampNeg 16) (cnM q101)) v0 0) (Int32.toNatClampNeg 17) (cnM q107)) v0 0) (Int32.toNatClampNeg 18) (cnM q113)) v0 0) (Int32.toNatClampNeg 19) (cnM q119)) v0 0) (Int32.toNatClampNeg 20) (cnM q125)) v0 0) (Int32.toNatClampNeg 21) (cnM q131)) v0 0) (Int32.toNatClampNeg 22) (cnM q137)) v0 0) (Int32.toNatClampNeg 23) (cnM q143)) v0 0) (Int32.toNatClampNeg 24) (cnM q149)) v0 0) (Int32.toNatClampNeg 25) (cnM q155)) v0 0) (Int32.toNatClampNeg 26) (cnM q161)) v0 0) (Int32.toNatClampNeg 27) (cnM q167)) v0 0) (Int32.toNatClampNeg 28) (cnM q173)) v0 0) (Int32.toNatClampNeg 29) (cnM q179)) v0 0) (Int32.toNatClampNeg 30) (cnM q185)) v0 0 ≠ 0)) <| (alF (srM q186 (grM (srM q180 (grM (srM q174 (grM (srM q168 (grM (srM q162 (grM (srM q156 (grM (srM q150 (grM (srM q144 (grM (srM q138 (grM (srM q132 (grM (srM q126 (grM (srM q120 (grM (srM q114 (grM (srM q108 (grM (srM q102 (grM (srM q96 (grM (srM q90 (grM (srM q84 (grM (srM q78 (grM (srM q72 (grM (srM q66 (grM (srM q60 (grM (srM q54 (grM (srM q48 (grM (srM q42 (grM (srM q36 (grM (srM q30 (grM (srM q24 (grM (srM q18 (grM (srM q12 (grM (srM q6 (grM (srM q1 v0 0 (cnM q1)) v0 0) (Int32.toNatClampNeg 0) (cnM q5)) v0 0) (Int32.toNatClampNeg 1) (cnM q11)) v0 0) (Int32.toNatClampNeg 2) (cnM q17)) v0 0) (Int32.toNatClampNeg 3) (cnM q23)) v0 0) (Int32.toNatClampNeg 4) (cnM q29)) v0 0) (Int32.toNatClampNeg 5) (cnM q35)) v0 0) (Int32.toNatClampNeg 6) (cnM q41)) v0 0) (Int32.toNatClampNeg 7) (cnM q47)) v0 0) (Int32.toNatClampNeg 8) (cnM q53)) v0 0) (Int32.toNatClampNeg 9) (cnM q59)) v0 0) (Int32.toNatClampNeg 10) (cnM q65)) v0 0) (Int32.toNatClampNeg 11) (cnM q71)) v0 0) (Int32.toNatClampNeg 12) (cnM q77)) v0 0) (Int32.toNatClampNeg 13) (cnM q83)) v0 0) (Int32.toNatClampNeg 14) (cnM q89)) v0 0) (Int32.toNatClampNeg 15) (cnM q95)) v0 0) (Int32.toNatClampNeg 16) (cnM q101)) v0 0) (Int32.toNatClampNeg 17) (cnM q107)) v0 0) (Int32.toNatClampNeg 18) (cnM q113)) v0 0) (Int32.toNatClampNeg 19) (cnM q119)) v0 0) (Int32.toNatClampNeg 20) (cnM q125)) v0 0) (Int32.toNatClampNeg 21) (cnM q131)) v0 0) (Int32.toNatClampNeg 22) (cnM q137)) v0 0) (Int32.toNatClampNeg 23) (cnM q143)) v0 0) (Int32.toNatClampNeg 24) (cnM q149)) v0 0) (Int32.toNatClampNeg 25) (cnM q155)) v0 0) (Int32.toNatClampNeg 26) (cnM q161)) v0 0) (Int32.toNatClampNeg 27) (cnM q167)) v0 0) (Int32.toNatClampNeg 28) (cnM q173)) v0 0) (Int32.toNatClampNeg 29) (cnM q179)) v0 0) (Int32.toNatClampNeg 30) (cnM q185)) 1 9).bind fun q191 => (fH_init (cnM q191) v1 q191).bind fun q192 => gd (wrT 103 q192 (grM (srM q186 (grM (srM q180 (grM (srM q174 (grM (srM q168 (grM (srM q162 (grM (srM q156 (grM (srM q150 (grM (srM q144 (grM (srM q138 (grM (srM q132 (grM (srM q126 (grM (srM q120 (grM (srM q114 (grM (srM q108 (grM (srM q102 (grM (srM q96 (grM (srM q90 (grM (srM q84 (grM (srM q78 (grM (srM q72 (grM (srM q66 (grM (srM q60 (grM (srM q54 (grM (srM q48 (grM (srM q42 (grM (srM q36 (grM (srM q30 (grM (srM q24 (grM (srM q18 (grM (srM q12 (grM (srM q6 (grM (srM q1 v0 0 (cnM q1)) v0 0) (Int32.toNatClampNeg 0) (cnM q5)) v0 0) (Int32.toNatClampNeg 1) (cnM q11)) v0 0) (Int32.toNatClampNeg 2) (cnM q17)) v0 0) (Int32.toNatClampNeg 3) (cnM q23)) v0 0) (Int32.toNatClampNeg 4) (cnM q29)) v0 0) (Int32.toNatClampNeg 5) (cnM q35)) v0 0) (Int32.toNatClampNeg 6) (cnM q41)) v0 0) (Int32.toNatClampNeg 7) (cnM q47)) v0 0) (Int32.toNatClampNeg 8) (cnM q53)) v0 0) (Int32.toNatClampNeg 9) (cnM q59)) v0 0) (Int32.toNatClampNeg 10) (cnM q65)) v0 0) (Int32.toNatClampNeg 11) (cnM q71)) v0 0) (Int32.toNatClampNeg 12) (cnM q77)) v0 0) (Int32.toNatClampNeg 13) (cnM q83)) v0 0) (Int32.toNatClampNeg 14) (cnM q89)) v0 0) (Int32.toNatClampNeg 15) (cnM q95)) v0 0) (Int32.toNatClampNeg 16) (cnM q101)) v0 0) (Int32.toNatClampNeg 17) (cnM q107)) v0 0) (Int32.toNatClampNeg 18) (cnM q113)) v0 0) (Int32.toNatClampNeg 19) (cnM q119)) v0 0) (Int32.toNatClampNeg 20) (cnM q125)) v0 0) (Int32.toNatClampNeg 21) (cnM q131)) v0 0) (Int32.toNatClampNeg 22) (cnM q137)) v0 0) (Int32.toNatClampNeg 23) (cnM q143)) v0 0) (Int32.toNatClampNeg 24) (cnM q149)) v0 0) (Int32.toNatClampNeg 25) (cnM q155)) v0 0) (Int32.toNatClampNeg 26) (cnM q161)) v0 0) (Int32.toNatClampNeg 27) (cnM q167)) v0 0) (Int32.toNatClampNeg 28) (cnM q173)) v0 0) (Int32.toNatClampNeg 29) (cnM q179)) v0 0) (Int32.toNatClampNeg 30) (cnM q185)) v0 0) 31) <| gd (obM q192 (cnM q191) 1 9) <| gd (obM q192 v0 4 3) <| gd (decide (grM (srM q192 (grM (srM q186 (grM (srM q180 (grM (srM q174 (grM (srM q168 (grM (srM q162 (grM (srM q156 (grM (srM q150 (grM (srM q144 (grM (srM q138 (grM (srM q132 (grM (srM q126 (grM (srM q120 (grM (srM q114 (grM (srM q108 (grM (srM q102 (grM (srM q96 (grM (srM q90 (grM (srM q84 (grM (srM q78 (grM (srM q72 (grM (srM q66 (grM (srM q60 (grM (srM q54 (grM (srM q48 (grM (srM q42 (grM (srM q36 (grM (srM q30 (grM (srM q24 (grM (srM q18 (grM (srM q12 (grM (srM q6 (grM (srM q1 v0 0 (cnM q1)) v0 0) (Int32.toNatClampNeg 0) (cnM q5)) v0 0) (Int32.toNatClampNeg 1) (cnM q11)) v0 0) (Int32.toNatClampNeg 2) (cnM q17)) v0 0) (Int32.toNatClampNeg 3) (cnM q23)) v0 0) (Int32.toNatClampNeg 4) (cnM q29)) v0 0) (Int32.toNatClampNeg 5) (cnM q35)) v0 0) (Int32.toNatClampNeg 6) (cnM q41)) v0 0) (Int32.toNatClampNeg 7) (cnM q47)) v0 0) (Int32.toNatClampNeg 8) (cnM q53)) v0 0) (Int32.toNatClampNeg 9) (cnM q59)) v0 0) (Int32.toNatClampNeg 10) (cnM q65)) v0 0) (Int32.toNatClampNeg 11) (cnM q71)) v0 0) (Int32.toNatClampNeg 12) (cnM q77)) v0 0) (Int32.toNatClampNeg 13) (cnM q83)) v0 0) (Int32.toNatClampNeg 14) (cnM q89)) v0 0) (Int32.toNatClampNeg 15) (cnM q95)) v0 0) (Int32.toNatClampNeg 16) (cnM q101)) v0 0) (Int32.toNatClampNeg 17) (cnM q107)) v0 0) (Int32.toNatClampNeg 18) (cnM q113)) v0 0) (Int32.toNatClampNeg 19) (cnM q119)) v0 0) (Int32.toNatClampNeg 20) (cnM q125)) v0 0) (Int32.toNatClampNeg 21) (cnM q131)) v0 0) (Int32.toNatClampNeg 22) (cnM q137)) v0 0) (Int32.toNatClampNeg 23) (cnM q143)) v0 0) (Int32.toNatClampNeg 24) (cnM q149)) v0 0) (Int32.toNatClampNeg 25) (cnM q155)) v0 0) (Int32.toNatClampNeg 26) (cnM q161)) v0 0) (Int32.toNatClampNeg 27) (cnM q167)) v0 0) (Int32.toNatClampNeg 28) (cnM q173)) v0 0) (Int32.toNatClampNeg 29) (cnM q179)) v0 0) (Int32.toNatClampNeg 30) (cnM q185)) v0 0) (Int32.toNatClampNeg 31) (cnM q191)) v0 0 ≠ 0)) <| (alF (srM q192 (grM (srM q186 (grM (srM q180 (grM (srM q174 (grM (srM q168 (grM (srM q162 (grM (srM q156 (grM (srM q150 (grM (srM q144 (grM (srM q138 (grM (srM q132 (grM (srM q126 (grM (srM q120 (grM (srM q114 (grM (srM q108 (grM (srM q102 (grM (srM q96 (grM (srM q90 (grM (srM q84 (grM (srM q78 (grM (srM q72 (grM (srM q66 (grM (srM q60 (grM (srM q54 (grM (srM q48 (grM (srM q42 (grM (srM q36 (grM (srM q30 (grM (srM q24 (grM (srM q18 (grM (srM q12 (grM (srM q6 (grM (srM q1 v0 0 (cnM q1)) v0 0) (Int32.toNatClampNeg 0) (cnM q5)) v0 0) (Int32.toNatClampNeg 1) (cnM q11)) v0 0) (Int32.toNatClampNeg 2) (cnM q17)) v0 0) (Int32.toNatClampNeg 3) (cnM q23)) v0 0) (Int32.toNatClampNeg 4) (cnM q29)) v0 0) (Int32.toNatClampNeg 5) (cnM q35)) v0 0) (Int32.toNatClampNeg 6) (cnM q41)) v0 0) (Int32.toNatClampNeg 7) (cnM q47)) v0 0) (Int32.toNatClampNeg 8) (cnM q53)) v0 0) (Int32.toNatClampNeg 9) (cnM q59)) v0 0) (Int32.toNatClampNeg 10) (cnM q65)) v0 0) (Int32.toNatClampNeg 11) (cnM q71)) v0 0) (Int32.toNatClampNeg 12) (cnM q77)) v0 0) (Int32.toNatClampNeg 13) (cnM q83)) v0 0) (Int32.toNatClampNeg 14) (cnM q89)) v0 0) (Int32.toNatClampNeg 15) (cnM q95)) v0 0) (Int32.toNatClampNeg 16) (cnM q101)) v0 0) (Int32.toNatClampNeg 17) (cnM q107)) v0 0) (Int32.toNatClampNeg 18) (cnM q113)) v0 0) (Int32.toNatClampNeg 19) (cnM q119)) v0 0) (Int32.toNatClampNeg 20) (cnM q125)) v0 0) (Int32.toNatClampNeg 21) (cnM q131)) v0 0) (Int32.toNatClampNeg 22) (cnM q137)) v0 0) (Int32.toNatClampNeg 23) (cnM q143)) v0 0) (Int32.toNatClampNeg 24) (cnM q149)) v0 0) (Int32.toNatClampNeg 25) (cnM q155)) v0 0) (Int32.toNatClampNeg 26) (cnM q161)) v0 0) (Int32.toNatClampNeg 27) (cnM q167)) v0 0) (Int32.toNatClampNeg 28) (cnM q173)) v0 0) (Int32.toNatClampNeg 29) (cnM q179)) v0 0) (Int32.toNatClampNeg 30) (cnM q185)) v0 0) (Int32.toNatClampNeg 31) (cnM q191)) 1 9).bind fun q197 => (fH_init (cnM q197) v1 q197).bind fun q198 => gd (wrT 103 q198 (grM (srM q192 (grM (srM q186 (grM (srM q180 (grM (srM q174 (grM (srM q168 (grM (srM q162 (grM (srM q156 (grM (srM q150 (grM (srM q144 (grM (srM q138 (grM (srM q132 (grM (srM q126 (grM (srM q120 (grM (srM q114 (grM (srM q108 (grM (srM q102 (grM (srM q96 (grM (srM q90 (grM (srM q84 (grM (srM q78 (grM (srM q72 (grM (srM q66 (grM (srM q60 (grM (srM q54 (grM (srM q48 (grM (srM q42 (grM (srM q36 (grM (srM q30 (grM (srM q24 (grM (srM q18 (grM (srM q12 (grM (srM q6 (grM (srM q1 v0 0 (cnM q1)) v0 0) (Int32.toNatClampNeg 0) (cnM q5)) v0 0) (Int32.toNatClampNeg 1) (cnM q11)) v0 0) (Int32.toNatClampNeg 2) (cnM q17)) v0 0) (Int32.toNatClampNeg 3) (cnM q23)) v0 0) (Int32.toNatClampNeg 4) (cnM q29)) v0 0) (Int32.toNatClampNeg 5) (cnM q35)) v0 0) (Int32.toNatClampNeg 6) (cnM q41)) v0 0) (Int32.toNatClampNeg 7) (cnM q47)) v0 0) (Int32.toNatClampNeg 8) (cnM q53)) v0 0) (Int32.toNatClampNeg 9) (cnM q59)) v0 0) (Int32.toNatClampNeg 10) (cnM q65)) v0 0) (Int32.toNatClampNeg 11) (cnM q71)) v0 0) (Int32.toNatClampNeg 12) (cnM q77)) v0 0) (Int32.toNatClampNeg 13) (cnM q83)) v0 0) (Int32.toNatClampNeg 14) (cnM q89)) v0 0) (Int32.toNatClampNeg 15) (cnM q95)) v0 0) (Int32.toNatClampNeg 16) (cnM q101)) v0 0) (Int32.toNatClampNeg 17) (cnM q107)) v0 0) (Int32.toNatClampNeg 18) (cnM q113)) v0 0) (Int32.toNatClampNeg 19) (cnM q119)) v0 0) (Int32.toNatClampNeg 20) (cnM q125)) v0 0) (Int32.toNatClampNeg 21) (cnM q131)) v0 0) (Int32.toNatClampNeg 22) (cnM q137)) v0 0) (Int32.toNatClampNeg 23) (cnM q143)) v0 0) (Int32.toNatClampNeg 24) (cnM q149)) v0 0) (Int32.toNatClampNeg 25) (cnM q155)) v0 0) (Int32.toNatClampNeg 26) (cnM q161)) v0 0) (Int32.toNatClampNeg 27) (cnM q167)) v0 0) (Int32.toNatClampNeg 28) (cnM q173)) v0 0) (Int32.toNatClampNeg 29) (cnM q179)) v0 0) (Int32.toNatClampNeg 30) (cnM q185)) v0 0) (Int32.toNatClampNeg 31) (cnM q191)) v0 0) 32) <| gd (obM q198 (cnM q197) 1 9) <| gd (obM q198 v0 4 3) <| gd (decide (grM (srM q198 (grM (srM q192 (grM (srM q186 (grM (srM q180 (grM (srM q174 (grM (srM q168 (grM (srM q162 (grM (srM q156 (grM (srM q150 (grM (srM q144 (grM (srM q138 (grM (srM q132 (grM (srM q126 (grM (srM q120 (grM (srM q114 (grM (srM q108 (grM (srM q102 (grM (srM q96 (grM (srM q90 (grM (srM q84 (grM (srM q78 (grM (srM q72 (grM (srM q66 (grM (srM q60 (grM (srM q54 (grM (srM q48 (grM (srM q42 (grM (srM q36 (grM (srM q30 (grM (srM q24 (grM (srM q18 (grM (srM q12 (grM (srM q6 (grM (srM q1 v0 0 (cnM q1)) v0 0) (Int32.toNatClampNeg 0) (cnM q5)) v0 0) (Int32.toNatClampNeg 1) (cnM q11)) v0 0) (Int32.toNatClampNeg 2) (cnM q17)) v0 0) (Int32.toNatClampNeg 3) (cnM q23)) v0 0) (Int32.toNatClampNeg 4) (cnM q29)) v0 0) (Int32.toNatClampNeg 5) (cnM q35)) v0 0) (Int32.toNatClampNeg 6) (cnM q41)) v0 0) (Int32.toNatClampNeg 7) (cnM q47)) v0 0) (Int32.toNatClampNeg 8) (cnM q53)) v0 0) (Int32.toNatClampNeg 9) (cnM q59)) v0 0) (Int32.toNatClampNeg 10) (cnM q65)) v0 0) (Int32.toNatClampNeg 11) (cnM q71)) v0 0) (Int32.toNatClampNeg 12) (cnM q77)) v0 0) (Int32.toNatClampNeg 13) (cnM q83)) v0 0) (Int32.toNatClampNeg 14) (cnM q89)) v0 0) (Int32.toNatClampNeg 15) (cnM q95)) v0 0) (Int32.toNatClampNeg 16) (cnM q101)) v0 0) (Int32.toNatClampNeg 17) (cnM q107)) v0 0) (Int32.toNatClampNeg 18) (cnM q113)) v0 0) (Int32.toNatClampNeg 19) (cnM q119)) v0 0) (Int32.toNatClampNeg 20) (cnM q125)) v0 0) (Int32.toNatClampNeg 21) (cnM q131)) v0 0) (Int32.toNatClampNeg 22) (cnM q137)) v0 0) (Int32.toNatClampNeg 23) (cnM q143)) v0 0) (Int32.toNatClampNeg 24) (cnM q149)) v0 0) (Int32.toNatClampNeg 25) (cnM q155)) v0 0) (Int32.toNatClampNeg 26) (cnM q161)) v0 0) (Int32.toNatClampNeg 27) (cnM q167)) v0 0) (Int32.toNatClampNeg 28) (cnM q173)) v0 0) (Int32.toNatClampNeg 29) (cnM q179)) v0 0) (Int32.toNatClampNeg 30) (cnM q185)) v0 0) (Int32.toNatClampNeg 31) (cnM q191)) v0 0) (Int32.toNatClampNeg 32) (cnM q197)) v0 0 ≠ 0)) <| (alF (srM q198 (grM (srM q192 (grM (srM q186 (grM (srM q180 (grM (srM q174 (grM (srM q168 (grM (srM q162 (grM (srM q156 (grM (srM q150 (grM (srM q144 (grM (srM q138 (grM (srM q132 (grM (srM q126 (grM (srM q120 (grM (srM q114 (grM (srM q108 (grM (srM q102 (grM (srM q96 (grM (srM q90 (grM (srM q84 (grM (srM q78 (grM (srM q72 (grM (srM q66 (grM (srM q60 (grM (srM q54 (grM (srM q48 (grM (srM q42 (grM (srM q36 (grM (srM q30 (grM (srM q24 (grM (srM q18 (grM (srM q12 (grM (srM q6 (grM (srM q1 v0 0 (cnM q1)) v0 0) (Int32.toNatClampNeg 0) (cnM q5)) v0 0) (Int32.toNatClampNeg 1) (cnM q11)) v0 0) (Int32.toNatClampNeg 2) (cnM q17)) v0 0) (Int32.toNatClampNeg 3) (cnM q23)) v0 0) (Int32.toNatClampNeg 4) (cnM q29)) v0 0) (Int32.toNatClampNeg 5) (cnM q35)) v0 0) (Int32.toNatClampNeg 6) (cnM q41)) v0 0) (Int32.toNatClampNeg 7) (cnM q47)) v0 0) (Int32.toNatClampNeg 8) (cnM q53)) v0 0) (Int32.toNatClampNeg 9) (cnM q59)) v0 0) (Int32.toNatClampNeg 10) (cnM q65)) v0 0) (Int32.toNatClampNeg 11) (cnM q71)) v0 0) (Int32.toNatClampNeg 12) (cnM q77)) v0 0) (Int32.toNatClampNeg 13) (cnM q83)) v0 0) (Int32.toNatClampNeg 14) (cnM q89)) v0 0) (Int32.toNatClampNeg 15) (cnM q95)) v0 0) (Int32.toNatClampNeg 16) (cnM q101)) v0 0) (Int32.toNatClampNeg 17) (cnM q107)) v0 0) (Int32.toNatClampNeg 18) (cnM q113)) v0 0) (Int32.toNatClampNeg 19) (cnM q119)) v0 0) (Int32.toNatClampNeg 20) (cnM q125)) v0 0) (Int32.toNatClampNeg 21) (cnM q131)) v0 0) (Int32.toNatClampNeg 22) (cnM q137)) v0 0) (Int32.toNatClampNeg 23) (cnM q143)) v0 0) (Int32.toNatClampNeg 24) (cnM q149)) v0 0) (Int32.toNatClampNeg 25) (cnM q155)) v0 0) (Int32.toNatClampNeg 26) (cnM q161)) v0 0) (Int32.toNatClampNeg 27) (cnM q167)) v0 0) (Int32.toNatClampNeg 28) (cnM q173)) v0 0) (Int32.toNatClampNeg 29) (cnM q179)) v0 0) (Int32.toNatClampNeg 30) (cnM q185)) v0 0) (Int32.toNatClampNeg 31) (cnM q191)) v0 0) (Int32.toNatClampNeg 32) (cnM q197)) 1 9).bind fun q203 => (fH_init (cnM q203) v1 q203).bind fun q204 => gd (wrT 103 q204 (grM (srM q198 (grM (srM q192 (grM (srM q186 (grM (srM q180 (grM (srM q174 (grM (srM q168 (grM (srM q162 (grM (srM q156 (grM (srM q150 (grM (srM q144 (grM (srM q138 (grM (srM q132 (grM (srM q126 (grM (srM q120 (grM (srM q114 (grM (srM q108 (grM (srM q102 (grM (srM q96 (grM (srM q90 (grM (srM q84 (grM (srM q78 (grM (srM q72 (grM (srM q66 (grM (srM q60 (grM (srM q54 (grM (srM q48 (grM (srM q42 (grM (srM q36 (grM (srM q30 (grM (srM q24 (grM (srM q18 (grM (srM q12 (grM (srM q6 (grM (srM q1 v0 0 (cnM q1)) v0 0) (Int32.toNatClampNeg 0) (cnM q5)) v0 0) (Int32.toNatClampNeg 1) (cnM q11)) v0 0) (Int32.toNatClampNeg 2) (cnM q17)) v0 0) (Int32.toNatClampNeg 3) (cnM q23)) v0 0) (Int32.toNatClampNeg 4) (cnM q29)) v0 0) (Int32.toNatClampNeg 5) (cnM q35)) v0 0) (Int32.toNatClampNeg 6) (cnM q41)) v0 0) (Int32.toNatClampNeg 7) (cnM q47)) v0 0) (Int32.toNatClampNeg 8) (cnM q53)) v0 0) (Int32.toNatClampNeg 9) (cnM q59)) v0 0) (Int32.toNatClampNeg 10) (cnM q65)) v0 0) (Int32.toNatClampNeg 11) (cnM q71)) v0 0) (Int32.toNatClampNeg 12) (cnM q77)) v0 0) (Int32.toNatClampNeg 13) (cnM q83)) v0 0) (Int32.toNatClampNeg 14) (cnM q89)) v0 0) (Int32.toNatClampNeg 15) (cnM q95)) v0 0) (Int32.toNatClampNeg 16) (cnM q101)) v0 0) (Int32.toNatClampNeg 17) (cnM q107)) v0 0) (Int32.toNatClampNeg 18) (cnM q113)) v0 0) (Int32.toNatClampNeg 19) (cnM q119)) v0 0) (Int32.toNatClampNeg 20) (cnM q125)) v0 0) (Int32.toNatClampNeg 21) (cnM q131)) v0 0) (Int32.toNatClampNeg 22) (cnM q137)) v0 0) (Int32.toNatClampNeg 23) (cnM q143)) v0 0) (Int32.toNatClampNeg 24) (cnM q149)) v0 0) (Int32.toNatClampNeg 25) (cnM q155)) v0 0) (Int32.toNatClampNeg 26) (cnM q161)) v0 0) (Int32.toNatClampNeg 27) (cnM q167)) v0 0) (Int32.toNatClampNeg 28) (cnM q173)) v0 0) (Int32.toNatClampNeg 29) (cnM q179)) v0 0) (Int32.toNatClampNeg 30) (cnM q185)) v0 0) (Int32.toNatClampNeg 31) (cnM q191)) v0 0) (Int32.toNatClampNeg 32) (cnM q197)) v0 0) 33) <| gd (obM q204 (cnM q203) 1 9) <| gd (obM q204 v0 4 3) <| gd (decide (grM (srM q204 (grM (srM q198 (grM (srM q192 (grM (srM q186 (grM (srM q180 (grM (srM q174 (grM (srM q168 (grM (srM q162 (grM (srM q156 (grM (srM q150 (grM (srM q144 (grM (srM q138 (grM (srM q132 (grM (srM q126 (grM (srM q120 (grM (srM q114 (grM (srM q108 (grM (srM q102 (grM (srM q96 (grM (srM q90 (grM (srM q84 (grM (srM q78 (grM (srM q72 (grM (srM q66 (grM (srM q60 (grM (srM q54 (grM (srM q48 (grM (srM q42 (grM (srM q36 (grM (srM q30 (grM (srM q24 (grM (srM q18 (grM (srM q12 (grM (srM q6 (grM (srM q1 v0 0 (cnM q1)) v0 0) (Int32.toNatClampNeg 0) (cnM q5)) v0 0) (Int32.toNatClampNeg 1) (cnM q11)) v0 0) (Int32.toNatClampNeg 2) (cnM q17)) v0 0) (Int32.toNatClampNeg 3) (cnM q23)) v0 0) (Int32.toNatClampNeg 4) (cnM q29)) v0 0) (Int32.toNatClampNeg 5) (cnM q35)) v0 0) (Int32.toNatClampNeg 6) (cnM q41)) v0 0) (Int32.toNatClampNeg 7) (cnM q47)) v0 0) (Int32.toNatClampNeg 8) (cnM q53)) v0 0) (Int32.toNatClampNeg 9) (cnM q59)) v0 0) (Int32.toNatClampNeg 10) (cnM q65)) v0 0) (Int32.toNatClampNeg 11) (cnM q71)) v0 0) (Int32.toNatClampNeg 12) (cnM q77)) v0 0) (Int32.toNatClampNeg 13) (cnM q83)) v0 0) (Int32.toNatClampNeg 14) (cnM q89)) v0 0) (Int32.toNatClampNeg 15) (cnM q95)) v0 0) (Int32.toNatClampNeg 16) (cnM q101)) v0 0) (Int32.toNatClampNeg 17) (cnM q107)) v0 0) (Int32.toNatClampNeg 18) (cnM q113)) v0 0) (Int32.toNatClampNeg 19) (cnM q119)) v0 0) (Int32.toNatClampNeg 20) (cnM q125)) v0 0) (Int32.toNatClampNeg 21) (cnM q131)) v0 0) (Int32.toNatClampNeg 22) (cnM q137)) v0 0) (Int32.toNatClampNeg 23) (cnM q143)) v0 0) (Int32.toNatClampNeg 24) (cnM q149)) v0 0) (Int32.toNatClampNeg 25) (cnM q155)) v0 0) (Int32.toNatClampNeg 26) (cnM q161)) v0 0) (Int32.toNatClampNeg 27) (cnM q167)) v0 0) (Int32.toNatClampNeg 28) (cnM q173)) v0 0) (Int32.toNatClampNeg 29) (cnM q179)) v0 0) (Int32.toNatClampNeg 30) (cnM q185)) v0 0) (Int32.toNatClampNeg 31) (cnM q191)) v0 0) (Int32.toNatClampNeg 32) (cnM q197)) v0 0) (Int32.toNatClampNeg 33) (cnM q203)) v0 0 ≠ 0)) <| (alF (srM q204 (grM (srM q198 (grM (srM q192 (grM (srM q186 (grM (srM q180 (grM (srM q174 (grM (srM q168 (grM (srM q162 (grM (srM q156 (grM (srM q150 (grM (srM q144 (grM (srM q138 (grM (srM q132 (grM (srM q126 (grM (srM q120 (grM (srM q114 (grM (srM q108 (grM (srM q102 (grM (srM q96 (grM (srM q90 (grM (srM q84 (grM (srM q78 (grM (srM q72 (grM (srM q66 (grM (srM q60 (grM (srM q54 (grM (srM q48 (grM (srM q42 (grM (srM q36 (grM (srM q30 (grM (srM q24 (grM (srM q18 (grM (srM q12 (grM (srM q6 (grM (srM q1 v0 0 (cnM q1)) v0 0) (Int32.toNatClampNeg 0) (cnM q5)) v0 0) (Int32.toNatClampNeg 1) (cnM q11)) v0 0) (Int32.toNatClampNeg 2) (cnM q17)) v0 0) (Int32.toNatClampNeg 3) (cnM q23)) v0 0) (Int32.toNatClampNeg 4) (cnM q29)) v0 0) (Int32.toNatClampNeg 5) (cnM q35)) v0 0) (Int32.toNatClampNeg 6) (cnM q41)) v0 0) (Int32.toNatClampNeg 7) (cnM q47)) v0 0) (Int32.toNatClampNeg 8) (cnM q53)) v0 0) (Int32.toNatClampNeg 9) (cnM q59)) v0 0) (Int32.toNatClampNeg 10) (cnM q65)) v0 0) (Int32.toNatClampNeg 11) (cnM q71)) v0 0) (Int32.toNatClampNeg 12) (cnM q77)) v0 0) (Int32.toNatClampNeg 13) (cnM q83)) v0 0) (Int32.toNatClampNeg 14) (cnM q89)) v0 0) (Int32.toNatClampNeg 15) (cnM q95)) v0 0) (Int32.toNatClampNeg 16) (cnM q101)) v0 0) (Int32.toNatClampNeg 17) (cnM q107)) v0 0) (Int32.toNatClampNeg 18) (cnM q113)) v0 0) (Int32.toNatClampNeg 19) (cnM q119)) v0 0) (Int32.toNatClampNeg 20) (cnM q125)) v0 0) (Int32.toNatClampNeg 21) (cnM q131)) v0 0) (Int32.toNatClampNeg 22) (cnM q137)) v0 0) (Int32.toNatClampNeg 23) (cnM q143)) v0 0) (Int32.toNatClampNeg 24) (cnM q149)) v0 0) (Int32.toNatClampNeg 25) (cnM q155)) v0 0) (Int32.toNatClampNeg 26) (cnM q161)) v0 0) (Int32.toNatClampNeg 27) (cnM q167)) v0 0) (Int32.toNatClampNeg 28) (cnM q173)) v0 0) (Int32.toNatClampNeg 29) (cnM q179)) v0 0) (Int32.toNatClampNeg 30) (cnM q185)) v0 0) (Int32.toNatClampNeg 31) (cnM q191)) v0 0) (Int32.toNatClampNeg 32) (cnM q197)) v0 0) (Int32.toNatClampNeg 33) (cnM q203)) 1 9).bind fun q209 => (fH_init (cnM q209) v1 q209).bind fun q210 => gd (wrT 103 q210 (grM (srM q204 (grM (srM q198 (grM (srM q192 (grM (srM q186 (grM (srM q180 (grM (srM q174 (grM (srM q168 (grM (srM q162 (grM (srM q156 (grM (srM q150 (grM (srM q144 (grM (srM q138 (grM (srM q132 (grM (srM q126 (grM (srM q120 (grM (srM q114 (grM (srM q108 (grM (srM q102 (grM (srM q96 (grM (srM q90 (grM (srM q84 (grM (srM q78 (grM (srM q72 (grM (srM q66 (grM (srM q60 (grM (srM q54 (grM (srM q48 (grM (srM q42 (grM (srM q36 (grM (srM q30 (grM (srM q24 (grM (srM q18 (grM (srM q12 (grM (srM q6 (grM (srM q1 v0 0 (cnM q1)) v0 0) (Int32.toNatClampNeg 0) (cnM q5)) v0 0) (Int32.toNatClampNeg 1) (cnM q11)) v0 0) (Int32.toNatClampNeg 2) (cnM q17)) v0 0) (Int32.toNatClampNeg 3) (cnM q23)) v0 0) (Int32.toNatClampNeg 4) (cnM q29)) v0 0) (Int32.toNatClampNeg 5) (cnM q35)) v0 0) (Int32.toNatClampNeg 6) (cnM q41)) v0 0) (Int32.toNatClampNeg 7) (cnM q47)) v0 0) (Int32.toNatClampNeg 8) (cnM q53)) v0 0) (Int32.toNatClampNeg 9) (cnM q59)) v0 0) (Int32.toNatClampNeg 10) (cnM q65)) v0 0) (Int32.toNatClampNeg 11) (cnM q71)) v0 0) (Int32.toNatClampNeg 12) (cnM q77)) v0 0) (Int32.toNatClampNeg 13) (cnM q83)) v0 0) (Int32.toNatClampNeg 14) (cnM q89)) v0 0) (Int32.toNatClampNeg 15) (cnM q95)) v0 0) (Int32.toNatClampNeg 16) (cnM q101)) v0 0) (Int32.toNatClampNeg 17) (cnM q107)) v0 0) (Int32.toNatClampNeg 18) (cnM q113)) v0 0) (Int32.toNatClampNeg 19) (cnM q119)) v0 0) (Int32.toNatClampNeg 20) (cnM q125)) v0 0) (Int32.toNatClampNeg 21) (cnM q131)) v0 0) (Int32.toNatClampNeg 22) (cnM q137)) v0 0) (Int32.toNatClampNeg 23) (cnM q143)) v0 0) (Int32.toNatClampNeg 24) (cnM q149)) v0 0) (Int32.toNatClampNeg 25) (cnM q155)) v0 0) (Int32.toNatClampNeg 26) (cnM q161)) v0 0) (Int32.toNatClampNeg 27) (cnM q167)) v0 0) (Int32.toNatClampNeg 28) (cnM q173)) v0 0) (Int32.toNatClampNeg 29) (cnM q179)) v0 0) (Int32.toNatClampNeg 30) (cnM q185)) v0 0) (Int32.toNatClampNeg 31) (cnM q191)) v0 0) (Int32.toNatClampNeg 32) (cnM q197)) v0 0) (Int32.toNatClampNeg 33) (cnM q203)) v0 0) 34) <| gd (obM q210 (cnM q209) 1 9) <| gd (obM q210 v0 4 3) <| gd (decide (grM (srM q210 (grM (srM q204 (grM (srM q198 (grM (srM q192 (grM (srM q186 (grM (srM q180 (grM (srM q174 (grM (srM q168 (grM (srM q162 (grM (srM q156 (grM (srM q150 (grM (srM q144 (grM (srM q138 (grM (srM q132 (grM (srM q126 (grM (srM q120 (grM (srM q114 (grM (srM q108 (grM (srM q102 (grM (srM q96 (grM (srM q90 (grM (srM q84 (grM (srM q78 (grM (srM q72 (grM (srM q66 (grM (srM q60 (grM (srM q54 (grM (srM q48 (grM (srM q42 (grM (srM q36 (grM (srM q30 (grM (srM q24 (grM (srM q18 (grM (srM q12 (grM (srM q6 (grM (srM q1 v0 0 (cnM q1)) v0 0) (Int32.toNatClampNeg 0) (cnM q5)) v0 0) (Int32.toNatClampNeg 1) (cnM q11)) v0 0) (Int32.toNatClampNeg 2) (cnM q17)) v0 0) (Int32.toNatClampNeg 3) (cnM q23)) v0 0) (Int32.toNatClampNeg 4) (cnM q29)) v0 0) (Int32.toNatClampNeg 5) (cnM q35)) v0 0) (Int32.toNatClampNeg 6) (cnM q41)) v0 0) (Int32.toNatClampNeg 7) (cnM q47)) v0 0) (Int32.toNatClampNeg 8) (cnM q53)) v0 0) (Int32.toNatClampNeg 9) (cnM q59)) v0 0) (Int32.toNatClampNeg 10) (cnM q65)) v0 0) (Int32.toNatClampNeg 11) (cnM q71)) v0 0) (Int32.toNatClampNeg 12) (cnM q77)) v0 0) (Int32.toNatClampNeg 13) (cnM q83)) v0 0) (Int32.toNatClampNeg 14) (cnM q89)) v0 0) (Int32.toNatClampNeg 15) (cnM q95)) v0 0) (Int32.toNatClampNeg 16) (cnM q101)) v0 0) (Int32.toNatClampNeg 17) (cnM q107)) v0 0) (Int32.toNatClampNeg 18) (cnM q113)) v0 0) (Int32.toNatClampNeg 19) (cnM q119)) v0 0) (Int32.toNatClampNeg 20) (cnM q125)) v0 0) (Int32.toNatClampNeg 21) (cnM q131)) v0 0) (Int32.toNatClampNeg 22) (cnM q137)) v0 0) (Int32.toNatClampNeg 23) (cnM q143)) v0 0) (Int32.toNatClampNeg 24) (cnM q149)) v0 0) (Int32.toNatClampNeg 25) (cnM q155)) v0 0) (Int32.toNatClampNeg 26) (cnM q161)) v0 0) (Int32.toNatClampNeg 27) (cnM q167)) v0 0) (Int32.toNatClampNeg 28) (cnM q173)) v0 0) (Int32.toNatClampNeg 29) (cnM q179)) v0 0) (Int32.toNatClampNeg 30) (cnM q185)) v0 0) (Int32.toNatClampNeg 31) (cnM q191)) v0 0) (Int32.toNatClampNeg 32) (cnM q197)) v0 0) (Int32.toNatClampNeg 33) (cnM q203)) v0 0) (Int32.toNatClampNeg 34) (cnM q209)) v0 0 ≠ 0)) <| (alF (srM q210 (grM (srM q204 (grM (srM q198 (grM (srM q192 (grM (srM q186 (grM (srM q180 (grM (srM q174 (grM (srM q168 (grM (srM q162 (grM (srM q156 (grM (srM q150 (grM (srM q144 (grM (srM q138 (grM (srM q132 (grM (srM q126 (grM (srM q120 (grM (srM q114 (grM (srM q108 (grM (srM q102 (grM (srM q96 (grM (srM q90 (grM (srM q84 (grM (srM q78 (grM (srM q72 (grM (srM q66 (grM (srM q60 (grM (srM q54 (grM (srM q48 (grM (srM q42 (grM (srM q36 (grM (srM q30 (grM (srM q24 (grM (srM q18 (grM (srM q12 (grM (srM q6 (grM (srM q1 v0 0 (cnM q1)) v0 0) (Int32.toNatClampNeg 0) (cnM q5)) v0 0) (Int32.toNatClampNeg 1) (cnM q11)) v0 0) (Int32.toNatClampNeg 2) (cnM q17)) v0 0) (Int32.toNatClampNeg 3) (cnM q23)) v0 0) (Int32.toNatClampNeg 4) (cnM q29)) v0 0) (Int32.toNatClampNeg 5) (cnM q35)) v0 0) (Int32.toNatClampNeg 6) (cnM q41)) v0 0) (Int32.toNatClampNeg 7) (cnM q47)) v0 0) (Int32.toNatClampNeg 8) (cnM q53)) v0 0) (Int32.toNatClampNeg 9) (cnM q59)) v0 0) (Int32.toNatClampNeg 10) (cnM q65)) v0 0) (Int32.toNatClampNeg 11) (cnM q71)) v0 0) (Int32.toNatClampNeg 12) (cnM q77)) v0 0) (Int32.toNatClampNeg 13) (cnM q83)) v0 0) (Int32.toNatClampNeg 14) (cnM q89)) v0 0) (Int32.toNatClampNeg 15) (cnM q95)) v0 0) (Int32.toNatClampNeg 16) (cnM q101)) v0 0) (Int32.toNatClampNeg 17) (cnM q107)) v0 0) (Int32.toNatClampNeg 18) (cnM q113)) v0 0) (Int32.toNatClampNeg 19) (cnM q119)) v0 0) (Int32.toNatClampNeg 20) (cnM q125)) v0 0) (Int32.toNatClampNeg 21) (cnM q131)) v0 0) (Int32.toNatClampNeg 22) (cnM q137)) v0 0) (Int32.toNatClampNeg 23) (cnM q143)) v0 0) (Int32.toNatClampNeg 24) (cnM q149)) v0 0) (Int32.toNatClampNeg 25) (cnM q155)) v0 0) (Int32.toNatClampNeg 26) (cnM q161)) v0 0) (Int32.toNatClampNeg 27) (cnM q167)) v0 0) (Int32.toNatClampNeg 28) (cnM q173)) v0 0) (Int32.toNatClampNeg 29) (cnM q179)) v0 0) (Int32.toNatClampNeg 30) (cnM q185)) v0 0) (Int32.toNatClampNeg 31) (cnM q191)) v0 0) (Int32.toNatClampNeg 32) (cnM q197)) v0 0) (Int32.toNatClampNeg 33) (cnM q203)) v0 0) (Int32.toNatClampNeg 34) (cnM q209)) 1 9).bind fun q215 => (fH_init (cnM q215) v1 q215).bind fun q216 => gd (wrT 103 q216 (grM (srM q210 (grM (srM q204 (grM (srM q198 (grM (srM q192 (grM (srM q186 (grM (srM q180 (grM (srM q174 (grM (srM q168 (grM (srM q162 (grM (srM q156 (grM (srM q150 (grM (srM q144 (grM (srM q138 (grM (srM q132 (grM (srM q126 (grM (srM q120 (grM (srM q114 (grM (srM q108 (grM (srM q102 (grM (srM q96 (grM (srM q90 (grM (srM q84 (grM (srM q78 (grM (srM q72 (grM (srM q66 (grM (srM q60 (grM (srM q54 (grM (srM q48 (grM (srM q42 (grM (srM q36 (grM (srM q30 (grM (srM q24 (grM (srM q18 (grM (srM q12 (grM (srM q6 (grM (srM q1 v0 0 (cnM q1)) v0 0) (Int32.toNatClampNeg 0) (cnM q5)) v0 0) (Int32.toNatClampNeg 1) (cnM q11)) v0 0) (Int32.toNatClampNeg 2) (cnM q17)) v0 0) (Int32.toNatClampNeg 3) (cnM q23)) v0 0) (Int32.toNatClampNeg 4) (cnM q29)) v0 0) (Int32.toNatClampNeg 5) (cnM q35)) v0 0) (Int32.toNatClampNeg 6) (cnM q41)) v0 0) (Int32.toNatClampNeg 7) (cnM q47)) v0 0) (Int32.toNatClampNeg 8) (cnM q53)) v0 0) (Int32.toNatClampNeg 9) (cnM q59)) v0 0) (Int32.toNatClampNeg 10) (cnM q65)) v0 0) (Int32.toNatClampNeg 11) (cnM q71)) v0 0) (Int32.toNatClampNeg 12) (cnM q77)) v0 0) (Int32.toNatClampNeg 13) (cnM q83)) v0 0) (Int32.toNatClampNeg 14) (cnM q89)) v0 0) (Int32.toNatClampNeg 15) (cnM q95)) v0 0) (Int32.toNatClampNeg 16) (cnM q101)) v0 0) (Int32.toNatClampNeg 17) (cnM q107)) v0 0) (Int32.toNatClampNeg 18) (cnM q113)) v0 0) (Int32.toNatClampNeg 19) (cnM q119)) v0 0) (Int32.toNatClampNeg 20) (cnM q125)) v0 0) (Int32.toNatClampNeg 21) (cnM q131)) v0 0) (Int32.toNatClampNeg 22) (cnM q137)) v0 0) (Int32.toNatClampNeg 23) (cnM q143)) v0 0) (Int32.toNatClampNeg 24) (cnM q149)) v0 0) (Int32.toNatClampNeg 25) (cnM q155)) v0 0) (Int32.toNatClampNeg 26) (cnM q161)) v0 0) (Int32.toNatClampNeg 27) (cnM q167)) v0 0) (Int32.toNatClampNeg 28) (cnM q173)) v0 0) (Int32.toNatClampNeg 29) (cnM q179)) v0 0) (Int32.toNatClampNeg 30) (cnM q185)) v0 0) (Int32.toNatClampNeg 31) (cnM q191)) v0 0) (Int32.toNatClampNeg 32) (cnM q197)) v0 0) (Int32.toNatClampNeg 33) (cnM q203)) v0 0) (Int32.toNatClampNeg 34) (cnM q209)) v0 0) 35) <| gd (obM q216 (cnM q215) 1 9) <| gd (obM q216 v0 4 3) <| gd (decide (grM (srM q216 (grM (srM q210 (grM (srM q204 (grM (srM q198 (grM (srM q192 (grM (srM q186 (grM (srM q180 (grM (srM q174 (grM (srM q168 (grM (srM q162 (grM (srM q156 (grM (srM q150 (grM (srM q144 (grM (srM q138 (grM (srM q132 (grM (srM q126 (grM (srM q120 (grM (srM q114 (grM (srM q108 (grM (srM q102 (grM (srM q96 (grM (srM q90 (grM (srM q84 (grM (srM q78 (grM (srM q72 (grM (srM q66 (grM (srM q60 (grM (srM q54 (grM (srM q48 (grM (srM q42 (grM (srM q36 (grM (srM q30 (grM (srM q24 (grM (srM q18 (grM (srM q12 (grM (srM q6 (grM (srM q1 v0 0 (cnM q1)) v0 0) (Int32.toNatClampNeg 0) (cnM q5)) v0 0) (Int32.toNatClampNeg 1) (cnM q11)) v0 0) (Int32.toNatClampNeg 2) (cnM q17)) v0 0) (Int32.toNatClampNeg 3) (cnM q23)) v0 0) (Int32.toNatClampNeg 4) (cnM q29)) v0 0) (Int32.toNatClampNeg 5) (cnM q35)) v0 0) (Int32.toNatClampNeg 6) (cnM q41)) v0 0) (Int32.toNatClampNeg 7) (cnM q47)) v0 0) (Int32.toNatClampNeg 8) (cnM q53)) v0 0) (Int32.toNatClampNeg 9) (cnM q59)) v0 0) (Int32.toNatClampNeg 10) (cnM q65)) v0 0) (Int32.toNatClampNeg 11) (cnM q71)) v0 0) (Int32.toNatClampNeg 12) (cnM q77)) v0 0) (Int32.toNatClampNeg 13) (cnM q83)) v0 0) (Int32.toNatClampNeg 14) (cnM q89)) v0 0) (Int32.toNatClampNeg 15) (cnM q95)) v0 0) (Int32.toNatClampNeg 16) (cnM q101)) v0 0) (Int32.toNatClampNeg 17) (cnM q107)) v0 0) (Int32.toNatClampNeg 18) (cnM q113)) v0 0) (Int32.toNatClampNeg 19) (cnM q119)) v0 0) (Int32.toNatClampNeg 20) (cnM q125)) v0 0) (Int32.toNatClampNeg 21) (cnM q131)) v0 0) (Int32.toNatClampNeg 22) (cnM q137)) v0 0) (Int32.toNatClampNeg 23) (cnM q143)) v0 0) (Int32.toNatClampNeg 24) (cnM q149)) v0 0) (Int32.toNatClampNeg 25) (cnM q155)) v0 0) (Int32.toNatClampNeg 26) (cnM q161)) v0 0) (Int32.toNatClampNeg 27) (cnM q167)) v0 0) (Int32.toNatClampNeg 28) (cnM q173)) v0 0) (Int32.toNatClampNeg 29) (cnM q179)) v0 0) (Int32.toNatClampNeg 30) (cnM q185)) v0 0) (Int32.toNatClampNeg 31) (cnM q191)) v0 0) (Int32.toNatClampNeg 32) (cnM q197)) v0 0) (Int32.toNatClampNeg 33) (cnM q203)) v0 0) (Int32.toNatClampNeg 34) (cnM q209)) v0 0) (Int32.toNatClampNeg 35) (cnM q215)) v0 0 ≠ 0)) <| (alF (srM q216 (grM (srM q210 (grM (srM q204 (grM (srM q198 (grM (srM q192 (grM (srM q186 (grM (srM q180 (grM (srM q174 (grM (srM q168 (grM (srM q162 (grM (srM q156 (grM (srM q150 (grM (srM q144 (grM (srM q138 (grM (srM q132 (grM (srM q126 (grM (srM q120 (grM (srM q114 (grM (srM q108 (grM (srM q102 (grM (srM q96 (grM (srM q90 (grM (srM q84 (grM (srM q78 (grM (srM q72 (grM (srM q66 (grM (srM q60 (grM (srM q54 (grM (srM q48 (grM (srM q42 (grM (srM q36 (grM (srM q30 (grM (srM q24 (grM (srM q18 (grM (srM q12 (grM (srM q6 (grM (srM q1 v0 0 (cnM q1)) v0 0) (Int32.toNatClampNeg 0) (cnM q5)) v0 0) (Int32.toNatClampNeg 1) (cnM q11)) v0 0) (Int32.toNatClampNeg 2) (cnM q17)) v0 0) (Int32.toNatClampNeg 3) (cnM q23)) v0 0) (Int32.toNatClampNeg 4) (cnM q29)) v0 0) (Int32.toNatClampNeg 5) (cnM q35)) v0 0) (Int32.toNatClampNeg 6) (cnM q41)) v0 0) (Int32.toNatClampNeg 7) (cnM q47)) v0 0) (Int32.toNatClampNeg 8) (cnM q53)) v0 0) (Int32.toNatClampNeg 9) (cnM q59)) v0 0) (Int32.toNatClampNeg 10) (cnM q65)) v0 0) (Int32.toNatClampNeg 11) (cnM q71)) v0 0) (Int32.toNatClampNeg 12) (cnM q77)) v0 0) (Int32.toNatClampNeg 13) (cnM q83)) v0 0) (Int32.toNatClampNeg 14) (cnM q89)) v0 0) (Int32.toNatClampNeg 15) (cnM q95)) v0 0) (Int32.toNatClampNeg 16) (cnM q101)) v0 0) (Int32.toNatClampNeg 17) (cnM q107)) v0 0) (Int32.toNatClampNeg 18) (cnM q113)) v0 0) (Int32.toNatClampNeg 19) (cnM q119)) v0 0) (Int32.toNatClampNeg 20) (cnM q125)) v0 0) (Int32.toNatClampNeg 21) (cnM q131)) v0 0) (Int32.toNatClampNeg 22) (cnM q137)) v0 0) (Int32.toNatClampNeg 23) (cnM q143)) v0 0) (Int32.toNatClampNeg 24) (cnM q149)) v0 0) (Int32.toNatClampNeg 25) (cnM q155)) v0 0) (Int32.toNatClampNeg 26) (cnM q161)) v0 0) (Int32.toNatClampNeg 27) (cnM q167)) v0 0) (Int32.toNatClampNeg 28) (cnM q173)) v0 0) (Int32.toNatClampNeg 29) (cnM q179)) v0 0) (Int32.toNatClampNeg 30) (cnM q185)) v0 0) (Int32.toNatClampNeg 31) (cnM q191)) v0 0) (Int32.toNatClampNeg 32) (cnM q197)) v0 0) (Int32.toNatClampNeg 33) (cnM q203)) v0 0) (Int32.toNatClampNeg 34) (cnM q209)) v0 0) (Int32.toNatClampNeg 35) (cnM q215)) 1 9).bind fun q221 => (fH_init (cnM q221) v1 q221).bind fun q222 => gd (wrT 103 q222 (grM (srM q216 (grM (srM q210 (grM (srM q204 (grM (srM q198 (grM (srM q192 (grM (srM q186 (grM (srM q180 (grM (srM q174 (grM (srM q168 (grM (srM q162 (grM (srM q156 (grM (srM q150 (grM (srM q144 (grM (srM q138 (grM (srM q132 (grM (srM q126 (grM (srM q120 (grM (srM q114 (grM (srM q108 (grM (srM q102 (grM (srM q96 (grM (srM q90 (grM (srM q84 (grM (srM q78 (grM (srM q72 (grM (srM q66 (grM (srM q60 (grM (srM q54 (grM (srM q48 (grM (srM q42 (grM (srM q36 (grM (srM q30 (grM (srM q24 (grM (srM q18 (grM (srM q12 (grM (srM q6 (grM (srM q1 v0 0 (cnM q1)) v0 0) (Int32.toNatClampNeg 0) (cnM q5)) v0 0) (Int32.toNatClampNeg 1) (cnM q11)) v0 0) (Int32.toNatClampNeg 2) (cnM q17)) v0 0) (Int32.toNatClampNeg 3) (cnM q23)) v0 0) (Int32.toNatClampNeg 4) (cnM q29)) v0 0) (Int32.toNatClampNeg 5) (cnM q35)) v0 0) (Int32.toNatClampNeg 6) (cnM q41)) v0 0) (Int32.toNatClampNeg 7) (cnM q47)) v0 0) (Int32.toNatClampNeg 8) (cnM q53)) v0 0) (Int32.toNatClampNeg 9) (cnM q59)) v0 0) (Int32.toNatClampNeg 10) (cnM q65)) v0 0) (Int32.toNatClampNeg 11) (cnM q71)) v0 0) (Int32.toNatClampNeg 12) (cnM q77)) v0 0) (Int32.toNatClampNeg 13) (cnM q83)) v0 0) (Int32.toNatClampNeg 14) (cnM q89)) v0 0) (Int32.toNatClampNeg 15) (cnM q95)) v0 0) (Int32.toNatClampNeg 16) (cnM q101)) v0 0) (Int32.toNatClampNeg 17) (cnM q107)) v0 0) (Int32.toNatClampNeg 18) (cnM q113)) v0 0) (Int32.toNatClampNeg 19) (cnM q119)) v0 0) (Int32.toNatClampNeg 20) (cnM q125)) v0 0) (Int32.toNatClampNeg 21) (cnM q131)) v0 0) (Int32.toNatClampNeg 22) (cnM q137)) v0 0) (Int32.toNatClampNeg 23) (cnM q143)) v0 0) (Int32.toNatClampNeg 24) (cnM q149)) v0 0) (Int32.toNatClampNeg 25) (cnM q155)) v0 0) (Int32.toNatClampNeg 26) (cnM q161)) v0 0) (Int32.toNatClampNeg 27) (cnM q167)) v0 0) (Int32.toNatClampNeg 28) (cnM q173)) v0 0) (Int32.toNatClampNeg 29) (cnM q179)) v0 0) (Int32.toNatClampNeg 30) (cnM q185)) v0 0) (Int32.toNatClampNeg 31) (cnM q191)) v0 0) (Int32.toNatClampNeg 32) (cnM q197)) v0 0) (Int32.toNatClampNeg 33) (cnM q203)) v0 0) (Int32.toNatClampNeg 34) (cnM q209)) v0 0) (Int32.toNatClampNeg 35) (cnM q215)) v0 0) 36) <| gd (obM q222 (cnM q221) 1 9) <| gd (obM q222 v0 4 3) <| gd (decide (grM (srM q222 (grM (srM q216 (grM (srM q210 (grM (srM q204 (grM (srM q198 (grM (srM q192 (grM (srM q186 (grM (srM q180 (grM (srM q174 (grM (srM q168 (grM (srM q162 (grM (srM q156 (grM (srM q150 (grM (srM q144 (grM (srM q138 (grM (srM q132 (grM (srM q126 (grM (srM q120 (grM (srM q114 (grM (srM q108 (grM (srM q102 (grM (srM q96 (grM (srM q90 (grM (srM q84 (grM (srM q78 (grM (srM q72 (grM (srM q66 (grM (srM q60 (grM (srM q54 (grM (srM q48 (grM (srM q42 (grM (srM q36 (grM (srM q30 (grM (srM q24 (grM (srM q18 (grM (srM q12 (grM (srM q6 (grM (srM q1 v0 0 (cnM q1)) v0 0) (Int32.toNatClampNeg 0) (cnM q5)) v0 0) (Int32.toNatClampNeg 1) (cnM q11)) v0 0) (Int32.toNatClampNeg 2) (cnM q17)) v0 0) (Int32.toNatClampNeg 3) (cnM q23)) v0 0) (Int32.toNatClampNeg 4) (cnM q29)) v0 0) (Int32.toNatClampNeg 5) (cnM q35)) v0 0) (Int32.toNatClampNeg 6) (cnM q41)) v0 0) (Int32.toNatClampNeg 7) (cnM q47)) v0 0) (Int32.toNatClampNeg 8) (cnM q53)) v0 0) (Int32.toNatClampNeg 9) (cnM q59)) v0 0) (Int32.toNatClampNeg 10) (cnM q65)) v0 0) (Int32.toNatClampNeg 11) (cnM q71)) v0 0) (Int32.toNatClampNeg 12) (cnM q77)) v0 0) (Int32.toNatClampNeg 13) (cnM q83)) v0 0) (Int32.toNatClampNeg 14) (cnM q89)) v0 0) (Int32.toNatClampNeg 15) (cnM q95)) v0 0) (Int32.toNatClampNeg 16) (cnM q101)) v0 0) (Int32.toNatClampNeg 17) (cnM q107)) v0 0) (Int32.toNatClampNeg 18) (cnM q113)) v0 0) (Int32.toNatClampNeg 19) (cnM q119)) v0 0) (Int32.toNatClampNeg 20) (cnM q125)) v0 0) (Int32.toNatClampNeg 21) (cnM q131)) v0 0) (Int32.toNatClampNeg 22) (cnM q137)) v0 0) (Int32.toNatClampNeg 23) (cnM q143)) v0 0) (Int32.toNatClampNeg 24) (cnM q149)) v0 0) (Int32.toNatClampNeg 25) (cnM q155)) v0 0) (Int32.toNatClampNeg 26) (cnM q161)) v0 0) (Int32.toNatClampNeg 27) (cnM q167)) v0 0) (Int32.toNatClampNeg 28) (cnM q173)) v0 0) (Int32.toNatClampNeg 29) (cnM q179)) v0 0) (Int32.toNatClampNeg 30) (cnM q185)) v0 0) (Int32.toNatClampNeg 31) (cnM q191)) v0 0) (Int32.toNatClampNeg 32) (cnM q197)) v0 0) (Int32.toNatClampNeg 33) (cnM q203)) v0 0) (Int32.toNatClampNeg 34) (cnM q209)) v0 0) (Int32.toNatClampNeg 35) (cnM q215)) v0 0) (Int32.toNatClampNeg 36) (cnM q221)) v0 0 ≠ 0)) <| (alF (srM q222 (grM (srM q216 (grM (srM q210 (grM (srM q204 (grM (srM q198 (grM (srM q192 (grM (srM q186 (grM (srM q180 (grM (srM q174 (grM (srM q168 (grM (srM q162 (grM (srM q156 (grM (srM q150 (grM (srM q144 (grM (srM q138 (grM (srM q132 (grM (srM q126 (grM (srM q120 (grM (srM q114 (grM (srM q108 (grM (srM q102 (grM (srM q96 (grM (srM q90 (grM (srM q84 (grM (srM q78 (grM (srM q72 (grM (srM q66 (grM (srM q60 (grM (srM q54 (grM (srM q48 (grM (srM q42 (grM (srM q36 (grM (srM q30 (grM (srM q24 (grM (srM q18 (grM (srM q12 (grM (srM q6 (grM (srM q1 v0 0 (cnM q1)) v0 0) (Int32.toNatClampNeg 0) (cnM q5)) v0 0) (Int32.toNatClampNeg 1) (cnM q11)) v0 0) (Int32.toNatClampNeg 2) (cnM q17)) v0 0) (Int32.toNatClampNeg 3) (cnM q23)) v0 0) (Int32.toNatClampNeg 4) (cnM q29)) v0 0) (Int32.toNatClampNeg 5) (cnM q35)) v0 0) (Int32.toNatClampNeg 6) (cnM q41)) v0 0) (Int32.toNatClampNeg 7) (cnM q47)) v0 0) (Int32.toNatClampNeg 8) (cnM q53)) v0 0) (Int32.toNatClampNeg 9) (cnM q59)) v0 0) (Int32.toNatClampNeg 10) (cnM q65)) v0 0) (Int32.toNatClampNeg 11) (cnM q71)) v0 0) (Int32.toNatClampNeg 12) (cnM q77)) v0 0) (Int32.toNatClampNeg 13) (cnM q83)) v0 0) (Int32.toNatClampNeg 14) (cnM q89)) v0 0) (Int32.toNatClampNeg 15) (cnM q95)) v0 0) (Int32.toNatClampNeg 16) (cnM q101)) v0 0) (Int32.toNatClampNeg 17) (cnM q107)) v0 0) (Int32.toNatClampNeg 18) (cnM q113)) v0 0) (Int32.toNatClampNeg 19) (cnM q119)) v0 0) (Int32.toNatClampNeg 20) (cnM q125)) v0 0) (Int32.toNatClampNeg 21) (cnM q131)) v0 0) (Int32.toNatClampNeg 22) (cnM q137)) v0 0) (Int32.toNatClampNeg 23) (cnM q143)) v0 0) (Int32.toNatClampNeg 24) (cnM q149)) v0 0) (Int32.toNatClampNeg 25) (cnM q155)) v0 0) (Int32.toNatClampNeg 26) (cnM q161)) v0 0) (Int32.toNatClampNeg 27) (cnM q167)) v0 0) (Int32.toNatClampNeg 28) (cnM q173)) v0 0) (Int32.toNatClampNeg 29) (cnM q179)) v0 0) (Int32.toNatClampNeg 30) (cnM q185)) v0 0) (Int32.toNatClampNeg 31) (cnM q191)) v0 0) (Int32.toNatClampNeg 32) (cnM q197)) v0 0) (Int32.toNatClampNeg 33) (cnM q203)) v0 0) (Int32.toNatClampNeg 34) (cnM q209)) v0 0) (Int32.toNatClampNeg 35) (cnM q215)) v0 0) (Int32.toNatClampNeg 36) (cnM q221)) 1 9).bind fun q227 => (fH_init (cnM q227) v1 q227).bind fun q228 => gd (wrT 103 q228 (grM (srM q222 (grM (srM q216 (grM (srM q210 (grM (srM q204 (grM (srM q198 (grM (srM q192 (grM (srM q186 (grM (srM q180 (grM (srM q174 (grM (srM q168 (grM (srM q162 (grM (srM q156 (grM (srM q150 (grM (srM q144 (grM (srM q138 (grM (srM q132 (grM (srM q126 (grM (srM q120 (grM (srM q114 (grM (srM q108 (grM (srM q102 (grM (srM q96 (grM (srM q90 (grM (srM q84 (grM (srM q78 (grM (srM q72 (grM (srM q66 (grM (srM q60 (grM (srM q54 (grM (srM q48 (grM (srM q42 (grM (srM q36 (grM (srM q30 (grM (srM q24 (grM (srM q18 (grM (srM q12 (grM (srM q6 (grM (srM q1 v0 0 (cnM q1)) v0 0) (Int32.toNatClampNeg 0) (cnM q5)) v0 0) (Int32.toNatClampNeg 1) (cnM q11)) v0 0) (Int32.toNatClampNeg 2) (cnM q17)) v0 0) (Int32.toNatClampNeg 3) (cnM q23)) v0 0) (Int32.toNatClampNeg 4) (cnM q29)) v0 0) (Int32.toNatClampNeg 5) (cnM q35)) v0 0) (Int32.toNatClampNeg 6) (cnM q41)) v0 0) (Int32.toNatClampNeg 7) (cnM q47)) v0 0) (Int32.toNatClampNeg 8) (cnM q53)) v0 0) (Int32.toNatClampNeg 9) (cnM q59)) v0 0) (Int32.toNatClampNeg 10) (cnM q65)) v0 0) (Int32.toNatClampNeg 11) (cnM q71)) v0 0) (Int32.toNatClampNeg 12) (cnM q77)) v0 0) (Int32.toNatClampNeg 13) (cnM q83)) v0 0) (Int32.toNatClampNeg 14) (cnM q89)) v0 0) (Int32.toNatClampNeg 15) (cnM q95)) v0 0) (Int32.toNatClampNeg 16) (cnM q101)) v0 0) (Int32.toNatClampNeg 17) (cnM q107)) v0 0) (Int32.toNatClampNeg 18) (cnM q113)) v0 0) (Int32.toNatClampNeg 19) (cnM q119)) v0 0) (Int32.toNatClampNeg 20) (cnM q125)) v0 0) (Int32.toNatClampNeg 21) (cnM q131)) v0 0) (Int32.toNatClampNeg 22) (cnM q137)) v0 0) (Int32.toNatClampNeg 23) (cnM q143)) v0 0) (Int32.toNatClampNeg 24) (cnM q149)) v0 0) (Int32.toNatClampNeg 25) (cnM q155)) v0 0) (Int32.toNatClampNeg 26) (cnM q161)) v0 0) (Int32.toNatClampNeg 27) (cnM q167)) v0 0) (Int32.toNatClampNeg 28) (cnM q173)) v0 0) (Int32.toNatClampNeg 29) (cnM q179)) v0 0) (Int32.toNatClampNeg 30) (cnM q185)) v0 0) (Int32.toNatClampNeg 31) (cnM q191)) v0 0) (Int32.toNatClampNeg 32) (cnM q197)) v0 0) (Int32.toNatClampNeg 33) (cnM q203)) v0 0) (Int32.toNatClampNeg 34) (cnM q209)) v0 0) (Int32.toNatClampNeg 35) (cnM q215)) v0 0) (Int32.toNatClampNeg 36) (cnM q221)) v0 0) 37) <| gd (obM q228 (cnM q227) 1 9) <| gd (obM q228 v0 4 3) <| gd (decide (grM (srM q228 (grM (srM q222 (grM (srM q216 (grM (srM q210 (grM (srM q204 (grM (srM q198 (grM (srM q192 (grM (srM q186 (grM (srM q180 (grM (srM q174 (grM (srM q168 (grM (srM q162 (grM (srM q156 (grM (srM q150 (grM (srM q144 (grM (srM q138 (grM (srM q132 (grM (srM q126 (grM (srM q120 (grM (srM q114 (grM (srM q108 (grM (srM q102 (grM (srM q96 (grM (srM q90 (grM (srM q84 (grM (srM q78 (grM (srM q72 (grM (srM q66 (grM (srM q60 (grM (srM q54 (grM (srM q48 (grM (srM q42 (grM (srM q36 (grM (srM q30 (grM (srM q24 (grM (srM q18 (grM (srM q12 (grM (srM q6 (grM (srM q1 v0 0 (cnM q1)) v0 0) (Int32.toNatClampNeg 0) (cnM q5)) v0 0) (Int32.toNatClampNeg 1) (cnM q11)) v0 0) (Int32.toNatClampNeg 2) (cnM q17)) v0 0) (Int32.toNatClampNeg 3) (cnM q23)) v0 0) (Int32.toNatClampNeg 4) (cnM q29)) v0 0) (Int32.toNatClampNeg 5) (cnM q35)) v0 0) (Int32.toNatClampNeg 6) (cnM q41)) v0 0) (Int32.toNatClampNeg 7) (cnM q47)) v0 0) (Int32.toNatClampNeg 8) (cnM q53)) v0 0) (Int32.toNatClampNeg 9) (cnM q59)) v0 0) (Int32.toNatClampNeg 10) (cnM q65)) v0 0) (Int32.toNatClampNeg 11) (cnM q71)) v0 0) (Int32.toNatClampNeg 12) (cnM q77)) v0 0) (Int32.toNatClampNeg 13) (cnM q83)) v0 0) (Int32.toNatClampNeg 14) (cnM q89)) v0 0) (Int32.toNatClampNeg 15) (cnM q95)) v0 0) (Int32.toNatClampNeg 16) (cnM q101)) v0 0) (Int32.toNatClampNeg 17) (cnM q107)) v0 0) (Int32.toNatClampNeg 18) (cnM q113)) v0 0) (Int32.toNatClampNeg 19) (cnM q119)) v0 0) (Int32.toNatClampNeg 20) (cnM q125)) v0 0) (Int32.toNatClampNeg 21) (cnM q131)) v0 0) (Int32.toNatClampNeg 22) (cnM q137)) v0 0) (Int32.toNatClampNeg 23) (cnM q143)) v0 0) (Int32.toNatClampNeg 24) (cnM q149)) v0 0) (Int32.toNatClampNeg 25) (cnM q155)) v0 0) (Int32.toNatClampNeg 26) (cnM q161)) v0 0) (Int32.toNatClampNeg 27) (cnM q167)) v0 0) (Int32.toNatClampNeg 28) (cnM q173)) v0 0) (Int32.toNatClampNeg 29) (cnM q179)) v0 0) (Int32.toNatClampNeg 30) (cnM q185)) v0 0) (Int32.toNatClampNeg 31) (cnM q191)) v0 0) (Int32.toNatClampNeg 32) (cnM q197)) v0 0) (Int32.toNatClampNeg 33) (cnM q203)) v0 0) (Int32.toNatClampNeg 34) (cnM q209)) v0 0) (Int32.toNatClampNeg 35) (cnM q215)) v0 0) (Int32.toNatClampNeg 36) (cnM q221)) v0 0) (Int32.toNatClampNeg 37) (cnM q227)) v0 0 ≠ 0)) <| (alF (srM q228 (grM (srM q222 (grM (srM q216 (grM (srM q210 (grM (srM q204 (grM (srM q198 (grM (srM q192 (grM (srM q186 (grM (srM q180 (grM (srM q174 (grM (srM q168 (grM (srM q162 (grM (srM q156 (grM (srM q150 (grM (srM q144 (grM (srM q138 (grM (srM q132 (grM (srM q126 (grM (srM q120 (grM (srM q114 (grM (srM q108 (grM (srM q102 (grM (srM q96 (grM (srM q90 (grM (srM q84 (grM (srM q78 (grM (srM q72 (grM (srM q66 (grM (srM q60 (grM (srM q54 (grM (srM q48 (grM (srM q42 (grM (srM q36 (grM (srM q30 (grM (srM q24 (grM (srM q18 (grM (srM q12 (grM (srM q6 (grM (srM q1 v0 0 (cnM q1)) v0 0) (Int32.toNatClampNeg 0) (cnM q5)) v0 0) (Int32.toNatClampNeg 1) (cnM q11)) v0 0) (Int32.toNatClampNeg 2) (cnM q17)) v0 0) (Int32.toNatClampNeg 3) (cnM q23)) v0 0) (Int32.toNatClampNeg 4) (cnM q29)) v0 0) (Int32.toNatClampNeg 5) (cnM q35)) v0 0) (Int32.toNatClampNeg 6) (cnM q41)) v0 0) (Int32.toNatClampNeg 7) (cnM q47)) v0 0) (Int32.toNatClampNeg 8) (cnM q53)) v0 0) (Int32.toNatClampNeg 9) (cnM q59)) v0 0) (Int32.toNatClampNeg 10) (cnM q65)) v0 0) (Int32.toNatClampNeg 11) (cnM q71)) v0 0) (Int32.toNatClampNeg 12) (cnM q77)) v0 0) (Int32.toNatClampNeg 13) (cnM q83)) v0 0) (Int32.toNatClampNeg 14) (cnM q89)) v0 0) (Int32.toNatClampNeg 15) (cnM q95)) v0 0) (Int32.toNatClampNeg 16) (cnM q101)) v0 0) (Int32.toNatClampNeg 17) (cnM q107)) v0 0) (Int32.toNatClampNeg 18) (cnM q113)) v0 0) (Int32.toNatClampNeg 19) (cnM q119)) v0 0) (Int32.toNatClampNeg 20) (cnM q125)) v0 0) (Int32.toNatClampNeg 21) (cnM q131)) v0 0) (Int32.toNatClampNeg 22) (cnM q137)) v0 0) (Int32.toNatClampNeg 23) (cnM q143)) v0 0) (Int32.toNatClampNeg 24) (cnM q149)) v0 0) (Int32.toNatClampNeg 25) (cnM q155)) v0 0) (Int32.toNatClampNeg 26) (cnM q161)) v0 0) (Int32.toNatClampNeg 27) (cnM q167)) v0 0) (Int32.toNatClampNeg 28) (cnM q173)) v0 0) (Int32.toNatClampNeg 29) (cnM q179)) v0 0) (Int32.toNatClampNeg 30) (cnM q185)) v0 0) (Int32.toNatClampNeg 31) (cnM q191)) v0 0) (Int32.toNatClampNeg 32) (cnM q197)) v0 0) (Int32.toNatClampNeg 33) (cnM q203)) v0 0) (Int32.toNatClampNeg 34) (cnM q209)) v0 0) (Int32.toNatClampNeg 35) (cnM q215)) v0 0) (Int32.toNatClampNeg 36) (cnM q221)) v0 0) (Int32.toNatClampNeg 37) (cnM q227)) 1 9).bind fun q233 => (fH_init (cnM q233) v1 q233).bind fun q234 => gd (wrT 103 q234 (grM (srM q228 (grM (srM q222 (grM (srM q216 (grM (srM q210 (grM (srM q204 (grM (srM q198 (grM (srM q192 (grM (srM q186 (grM (srM q180 (grM (srM q174 (grM (srM q168 (grM (srM q162 (grM (srM q156 (grM (srM q150 (grM (srM q144 (grM (srM q138 (grM (srM q132 (grM (srM q126 (grM (srM q120 (grM (srM q114 (grM (srM q108 (grM (srM q102 (grM (srM q96 (grM (srM q90 (grM (srM q84 (grM (srM q78 (grM (srM q72 (grM (srM q66 (grM (srM q60 (grM (srM q54 (grM (srM q48 (grM (srM q42 (grM (srM q36 (grM (srM q30 (grM (srM q24 (grM (srM q18 (grM (srM q12 (grM (srM q6 (grM (srM q1 v0 0 (cnM q1)) v0 0) (Int32.toNatClampNeg 0) (cnM q5)) v0 0) (Int32.toNatClampNeg 1) (cnM q11)) v0 0) (Int32.toNatClampNeg 2) (cnM q17)) v0 0) (Int32.toNatClampNeg 3) (cnM q23)) v0 0) (Int32.toNatClampNeg 4) (cnM q29)) v0 0) (Int32.toNatClampNeg 5) (cnM q35)) v0 0) (Int32.toNatClampNeg 6) (cnM q41)) v0 0) (Int32.toNatClampNeg 7) (cnM q47)) v0 0) (Int32.toNatClampNeg 8) (cnM q53)) v0 0) (Int32.toNatClampNeg 9) (cnM q59)) v0 0) (Int32.toNatClampNeg 10) (cnM q65)) v0 0) (Int32.toNatClampNeg 11) (cnM q71)) v0 0) (Int32.toNatClampNeg 12) (cnM q77)) v0 0) (Int32.toNatClampNeg 13) (cnM q83)) v0 0) (Int32.toNatClampNeg 14) (cnM q89)) v0 0) (Int32.toNatClampNeg 15) (cnM q95)) v0 0) (Int32.toNatClampNeg 16) (cnM q101)) v0 0) (Int32.toNatClampNeg 17) (cnM q107)) v0 0) (Int32.toNatClampNeg 18) (cnM q113)) v0 0) (Int32.toNatClampNeg 19) (cnM q119)) v0 0) (Int32.toNatClampNeg 20) (cnM q125)) v0 0) (Int32.toNatClampNeg 21) (cnM q131)) v0 0) (Int32.toNatClampNeg 22) (cnM q137)) v0 0) (Int32.toNatClampNeg 23) (cnM q143)) v0 0) (Int32.toNatClampNeg 24) (cnM q149)) v0 0) (Int32.toNatClampNeg 25) (cnM q155)) v0 0) (Int32.toNatClampNeg 26) (cnM q161)) v0 0) (Int32.toNatClampNeg 27) (cnM q167)) v0 0) (Int32.toNatClampNeg 28) (cnM q173)) v0 0) (Int32.toNatClampNeg 29) (cnM q179)) v0 0) (Int32.toNatClampNeg 30) (cnM q185)) v0 0) (Int32.toNatClampNeg 31) (cnM q191)) v0 0) (Int32.toNatClampNeg 32) (cnM q197)) v0 0) (Int32.toNatClampNeg 33) (cnM q203)) v0 0) (Int32.toNatClampNeg 34) (cnM q209)) v0 0) (Int32.toNatClampNeg 35) (cnM q215)) v0 0) (Int32.toNatClampNeg 36) (cnM q221)) v0 0) (Int32.toNatClampNeg 37) (cnM q227)) v0 0) 38) <| gd (obM q234 (cnM q233) 1 9) <| gd (obM q234 v0 4 3) <| gd (decide (grM (srM q234 (grM (srM q228 (grM (srM q222 (grM (srM q216 (grM (srM q210 (grM (srM q204 (grM (srM q198 (grM (srM q192 (grM (srM q186 (grM (srM q180 (grM (srM q174 (grM (srM q168 (grM (srM q162 (grM (srM q156 (grM (srM q150 (grM (srM q144 (grM (srM q138 (grM (srM q132 (grM (srM q126 (grM (srM q120 (grM (srM q114 (grM (srM q108 (grM (srM q102 (grM (srM q96 (grM (srM q90 (grM (srM q84 (grM (srM q78 (grM (srM q72 (grM (srM q66 (grM (srM q60 (grM (srM q54 (grM (srM q48 (grM (srM q42 (grM (srM q36 (grM (srM q30 (grM (srM q24 (grM (srM q18 (grM (srM q12 (grM (srM q6 (grM (srM q1 v0 0 (cnM q1)) v0 0) (Int32.toNatClampNeg 0) (cnM q5)) v0 0) (Int32.toNatClampNeg 1) (cnM q11)) v0 0) (Int32.toNatClampNeg 2) (cnM q17)) v0 0) (Int32.toNatClampNeg 3) (cnM q23)) v0 0) (Int32.toNatClampNeg 4) (cnM q29)) v0 0) (Int32.toNatClampNeg 5) (cnM q35)) v0 0) (Int32.toNatClampNeg 6) (cnM q41)) v0 0) (Int32.toNatClampNeg 7) (cnM q47)) v0 0) (Int32.toNatClampNeg 8) (cnM q53)) v0 0) (Int32.toNatClampNeg 9) (cnM q59)) v0 0) (Int32.toNatClampNeg 10) (cnM q65)) v0 0) (Int32.toNatClampNeg 11) (cnM q71)) v0 0) (Int32.toNatClampNeg 12) (cnM q77)) v0 0) (Int32.toNatClampNeg 13) (cnM q83)) v0 0) (Int32.toNatClampNeg 14) (cnM q89)) v0 0) (Int32.toNatClampNeg 15) (cnM q95)) v0 0) (Int32.toNatClampNeg 16) (cnM q101)) v0 0) (Int32.toNatClampNeg 17) (cnM q107)) v0 0) (Int32.toNatClampNeg 18) (cnM q113)) v0 0) (Int32.toNatClampNeg 19) (cnM q119)) v0 0) (Int32.toNatClampNeg 20) (cnM q125)) v0 0) (Int32.toNatClampNeg 21) (cnM q131)) v0 0) (Int32.toNatClampNeg 22) (cnM q137)) v0 0) (Int32.toNatClampNeg 23) (cnM q143)) v0 0) (Int32.toNatClampNeg 24) (cnM q149)) v0 0) (Int32.toNatClampNeg 25) (cnM q155)) v0 0) (Int32.toNatClampNeg 26) (cnM q161)) v0 0) (Int32.toNatClampNeg 27) (cnM q167)) v0 0) (Int32.toNatClampNeg 28) (cnM q173)) v0 0) (Int32.toNatClampNeg 29) (cnM q179)) v0 0) (Int32.toNatClampNeg 30) (cnM q185)) v0 0) (Int32.toNatClampNeg 31) (cnM q191)) v0 0) (Int32.toNatClampNeg 32) (cnM q197)) v0 0) (Int32.toNatClampNeg 33) (cnM q203)) v0 0) (Int32.toNatClampNeg 34) (cnM q209)) v0 0) (Int32.toNatClampNeg 35) (cnM q215)) v0 0) (Int32.toNatClampNeg 36) (cnM q221)) v0 0) (Int32.toNatClampNeg 37) (cnM q227)) v0 0) (Int32.toNatClampNeg 38) (cnM q233)) v0 0 ≠ 0)) <| (alF (srM q234 (grM (srM q228 (grM (srM q222 (grM (srM q216 (grM (srM q210 (grM (srM q204 (grM (srM q198 (grM (srM q192 (grM (srM q186 (grM (srM q180 (grM (srM q174 (grM (srM q168 (grM (srM q162 (grM (srM q156 (grM (srM q150 (grM (srM q144 (grM (srM q138 (grM (srM q132 (grM (srM q126 (grM (srM q120 (grM (srM q114 (grM (srM q108 (grM (srM q102 (grM (srM q96 (grM (srM q90 (grM (srM q84 (grM (srM q78 (grM (srM q72 (grM (srM q66 (grM (srM q60 (grM (srM q54 (grM (srM q48 (grM (srM q42 (grM (srM q36 (grM (srM q30 (grM (srM q24 (grM (srM q18 (grM (srM q12 (grM (srM q6 (grM (srM q1 v0 0 (cnM q1)) v0 0) (Int32.toNatClampNeg 0) (cnM q5)) v0 0) (Int32.toNatClampNeg 1) (cnM q11)) v0 0) (Int32.toNatClampNeg 2) (cnM q17)) v0 0) (Int32.toNatClampNeg 3) (cnM q23)) v0 0) (Int32.toNatClampNeg 4) (cnM q29)) v0 0) (Int32.toNatClampNeg 5) (cnM q35)) v0 0) (Int32.toNatClampNeg 6) (cnM q41)) v0 0) (Int32.toNatClampNeg 7) (cnM q47)) v0 0) (Int32.toNatClampNeg 8) (cnM q53)) v0 0) (Int32.toNatClampNeg 9) (cnM q59)) v0 0) (Int32.toNatClampNeg 10) (cnM q65)) v0 0) (Int32.toNatClampNeg 11) (cnM q71)) v0 0) (Int32.toNatClampNeg 12) (cnM q77)) v0 0) (Int32.toNatClampNeg 13) (cnM q83)) v0 0) (Int32.toNatClampNeg 14) (cnM q89)) v0 0) (Int32.toNatClampNeg 15) (cnM q95)) v0 0) (Int32.toNatClampNeg 16) (cnM q101)) v0 0) (Int32.toNatClampNeg 17) (cnM q107)) v0 0) (Int32.toNatClampNeg 18) (cnM q113)) v0 0) (Int32.toNatClampNeg 19) (cnM q119)) v0 0) (Int32.toNatClampNeg 20) (cnM q125)) v0 0) (Int32.toNatClampNeg 21) (cnM q131)) v0 0) (Int32.toNatClampNeg 22) (cnM q137)) v0 0) (Int32.toNatClampNeg 23) (cnM q143)) v0 0) (Int32.toNatClampNeg 24) (cnM q149)) v0 0) (Int32.toNatClampNeg 25) (cnM q155)) v0 0) (Int32.toNatClampNeg 26) (cnM q161)) v0 0) (Int32.toNatClampNeg 27) (cnM q167)) v0 0) (Int32.toNatClampNeg 28) (cnM q173)) v0 0) (Int32.toNatClampNeg 29) (cnM q179)) v0 0) (Int32.toNatClampNeg 30) (cnM q185)) v0 0) (Int32.toNatClampNeg 31) (cnM q191)) v0 0) (Int32.toNatClampNeg 32) (cnM q197)) v0 0) (Int32.toNatClampNeg 33) (cnM q203)) v0 0) (Int32.toNatClampNeg 34) (cnM q209)) v0 0) (Int32.toNatClampNeg 35) (cnM q215)) v0 0) (Int32.toNatClampNeg 36) (cnM q221)) v0 0) (Int32.toNatClampNeg 37) (cnM q227)) v0 0) (Int32.toNatClampNeg 38) (cnM q233)) 1 9).bind fun q239 => (fH_init (cnM q239) v1 q239).bind fun q240 => gd (wrT 103 q240 (grM (srM q234 (grM (srM q228 (grM (srM q222 (grM (srM q216 (grM (srM q210 (grM (srM q204 (grM (srM q198 (grM (srM q192 (grM (srM q186 (grM (srM q180 (grM (srM q174 (grM (srM q168 (grM (srM q162 (grM (srM q156 (grM (srM q150 (grM (srM q144 (grM (srM q138 (grM (srM q132 (grM (srM q126 (grM (srM q120 (grM (srM q114 (grM (srM q108 (grM (srM q102 (grM (srM q96 (grM (srM q90 (grM (srM q84 (grM (srM q78 (grM (srM q72 (grM (srM q66 (grM (srM q60 (grM (srM q54 (grM (srM q48 (grM (srM q42 (grM (srM q36 (grM (srM q30 (grM (srM q24 (grM (srM q18 (grM (srM q12 (grM (srM q6 (grM (srM q1 v0 0 (cnM q1)) v0 0) (Int32.toNatClampNeg 0) (cnM q5)) v0 0) (Int32.toNatClampNeg 1) (cnM q11)) v0 0) (Int32.toNatClampNeg 2) (cnM q17)) v0 0) (Int32.toNatClampNeg 3) (cnM q23)) v0 0) (Int32.toNatClampNeg 4) (cnM q29)) v0 0) (Int32.toNatClampNeg 5) (cnM q35)) v0 0) (Int32.toNatClampNeg 6) (cnM q41)) v0 0) (Int32.toNatClampNeg 7) (cnM q47)) v0 0) (Int32.toNatClampNeg 8) (cnM q53)) v0 0) (Int32.toNatClampNeg 9) (cnM q59)) v0 0) (Int32.toNatClampNeg 10) (cnM q65)) v0 0) (Int32.toNatClampNeg 11) (cnM q71)) v0 0) (Int32.toNatClampNeg 12) (cnM q77)) v0 0) (Int32.toNatClampNeg 13) (cnM q83)) v0 0) (Int32.toNatClampNeg 14) (cnM q89)) v0 0) (Int32.toNatClampNeg 15) (cnM q95)) v0 0) (Int32.toNatClampNeg 16) (cnM q101)) v0 0) (Int32.toNatClampNeg 17) (cnM q107)) v0 0) (Int32.toNatClampNeg 18) (cnM q113)) v0 0) (Int32.toNatClampNeg 19) (cnM q119)) v0 0) (Int32.toNatClampNeg 20) (cnM q125)) v0 0) (Int32.toNatClampNeg 21) (cnM q131)) v0 0) (Int32.toNatClampNeg 22) (cnM q137)) v0 0) (Int32.toNatClampNeg 23) (cnM q143)) v0 0) (Int32.toNatClampNeg 24) (cnM q149)) v0 0) (Int32.toNatClampNeg 25) (cnM q155)) v0 0) (Int32.toNatClampNeg 26) (cnM q161)) v0 0) (Int32.toNatClampNeg 27) (cnM q167)) v0 0) (Int32.toNatClampNeg 28) (cnM q173)) v0 0) (Int32.toNatClampNeg 29) (cnM q179)) v0 0) (Int32.toNatClampNeg 30) (cnM q185)) v0 0) (Int32.toNatClampNeg 31) (cnM q191)) v0 0) (Int32.toNatClampNeg 32) (cnM q197)) v0 0) (Int32.toNatClampNeg 33) (cnM q203)) v0 0) (Int32.toNatClampNeg 34) (cnM q209)) v0 0) (Int32.toNatClampNeg 35) (cnM q215)) v0 0) (Int32.toNatClampNeg 36) (cnM q221)) v0 0) (Int32.toNatClampNeg 37) (cnM q227)) v0 0) (Int32.toNatClampNeg 38) (cnM q233)) v0 0) 39) <| gd (obM q240 (cnM q239) 1 9) <| gd (obM q240 v0 4 3) <| some (siM (siM (srM q240 (grM (srM q234 (grM (srM q228 (grM (srM q222 (grM (srM q216 (grM (srM q210 (grM (srM q204 (grM (srM q198 (grM (srM q192 (grM (srM q186 (grM (srM q180 (grM (srM q174 (grM (srM q168 (grM (srM q162 (grM (srM q156 (grM (srM q150 (grM (srM q144 (grM (srM q138 (grM (srM q132 (grM (srM q126 (grM (srM q120 (grM (srM q114 (grM (srM q108 (grM (srM q102 (grM (srM q96 (grM (srM q90 (grM (srM q84 (grM (srM q78 (grM (srM q72 (grM (srM q66 (grM (srM q60 (grM (srM q54 (grM (srM q48 (grM (srM q42 (grM (srM q36 (grM (srM q30 (grM (srM q24 (grM (srM q18 (grM (srM q12 (grM (srM q6 (grM (srM q1 v0 0 (cnM q1)) v0 0) (Int32.toNatClampNeg 0) (cnM q5)) v0 0) (Int32.toNatClampNeg 1) (cnM q11)) v0 0) (Int32.toNatClampNeg 2) (cnM q17)) v0 0) (Int32.toNatClampNeg 3) (cnM q23)) v0 0) (Int32.toNatClampNeg 4) (cnM q29)) v0 0) (Int32.toNatClampNeg 5) (cnM q35)) v0 0) (Int32.toNatClampNeg 6) (cnM q41)) v0 0) (Int32.toNatClampNeg 7) (cnM q47)) v0 0) (Int32.toNatClampNeg 8) (cnM q53)) v0 0) (Int32.toNatClampNeg 9) (cnM q59)) v0 0) (Int32.toNatClampNeg 10) (cnM q65)) v0 0) (Int32.toNatClampNeg 11) (cnM q71)) v0 0) (Int32.toNatClampNeg 12) (cnM q77)) v0 0) (Int32.toNatClampNeg 13) (cnM q83)) v0 0) (Int32.toNatClampNeg 14) (cnM q89)) v0 0) (Int32.toNatClampNeg 15) (cnM q95)) v0 0) (Int32.toNatClampNeg 16) (cnM q101)) v0 0) (Int32.toNatClampNeg 17) (cnM q107)) v0 0) (Int32.toNatClampNeg 18) (cnM q113)) v0 0) (Int32.toNatClampNeg 19) (cnM q119)) v0 0) (Int32.toNatClampNeg 20) (cnM q125)) v0 0) (Int32.toNatClampNeg 21) (cnM q131)) v0 0) (Int32.toNatClampNeg 22) (cnM q137)) v0 0) (Int32.toNatClampNeg 23) (cnM q143)) v0 0) (Int32.toNatClampNeg 24) (cnM q149)) v0 0) (Int32.toNatClampNeg 25) (cnM q155)) v0 0) (Int32.toNatClampNeg 26) (cnM q161)) v0 0) (Int32.toNatClampNeg 27) (cnM q167)) v0 0) (Int32.toNatClampNeg 28) (cnM q173)) v0 0) (Int32.toNatClampNeg 29) (cnM q179)) v0 0) (Int32.toNatClampNeg 30) (cnM q185)) v0 0) (Int32.toNatClampNeg 31) (cnM q191)) v0 0) (Int32.toNatClampNeg 32) (cnM q197)) v0 0) (Int32.toNatClampNeg 33) (cnM q203)) v0 0) (Int32.toNatClampNeg 34) (cnM q209)) v0 0) (Int32.toNatClampNeg 35) (cnM q215)) v0 0) (Int32.toNatClampNeg 36) (cnM q221)) v0 0) (Int32.toNatClampNeg 37) (cnM q227)) v0 0) (Int32.toNatClampNeg 38) (cnM q233)) v0 0) (Int32.toNatClampNeg 39) (cnM q239)) v0 1 0) v0 2 0)
set_option maxRecDepth 100000 in
def fG_init (v0 : Nat) (M : Mem) : Option (Mem) :=
  (alF M 100 (Int32.toNatClampNeg 24)).bind fun q1 => gd (obM q1 v0 5 5) <| gd (decide ((cnM q1) ≠ 0)) <| (alF (srM q1 v0 0 (cnM q1)) 100 (Int32.toNatClampNeg 24)).bind fun q4 => gd (obM q4 v0 5 5) <| gd (decide ((cnM q4) ≠ 0)) <| (alF (srM q4 v0 1 (cnM q4)) 100 (Int32.toNatClampNeg 24)).bind fun q7 => gd (obM q7 v0 5 5) <| gd (decide ((cnM q7) ≠ 0)) <| some (siM (siM (srM q7 v0 2 (cnM q7)) v0 3 0) v0 4 0)
set_option maxRecDepth 100000 in
def fX_init (v0 : Nat) (v1 : Nat) (M : Mem) : Option (Mem) :=
  (alF M 103 (Int32.toNatClampNeg 7)).bind fun q1 => gd (obM q1 v0 3 9) <| gd (decide ((cnM q1) ≠ 0)) <| (alF (srM q1 v0 0 (cnM q1)) 105 (Int32.toNatClampNeg 7)).bind fun q4 => gd (obM q4 v0 3 9) <| gd (decide ((cnM q4) ≠ 0)) <| (alF (srM q4 v0 1 (cnM q4)) 105 (Int32.toNatClampNeg 7)).bind fun q7 => gd (obM q7 v0 3 9) <| gd (decide ((cnM q7) ≠ 0)) <| gd (decide (grM (srM q7 v0 2 (cnM q7)) v0 0 ≠ 0)) <| gd (lnT 103 q7 (grM (srM q7 v0 2 (cnM q7)) v0 0)) <| gd (decide ((tgM q7 (grM (srM q7 v0 2 (cnM q7)) v0 0)).2 = 7)) <| (alF (srM q7 v0 2 (cnM q7)) 1 9).bind fun q13 => (fH_init (cnM q13) v1 q13).bind fun q14 => gd (wrT 103 q14 (grM (srM q7 v0 2 (cnM q7)) v0 0) 0) <| gd (obM q14 (cnM q13) 1 9) <| gd (obM q14 v0 3 9) <| gd (decide (grM (srM q14 (grM (srM q7 v0 2 (cnM q7)) v0 0) (Int32.toNatClampNeg 0) (cnM q13)) v0 1 ≠ 0)) <| (alF (srM q14 (grM (srM q7 v0 2 (cnM q7)) v0 0) (Int32.toNatClampNeg 0) (cnM q13)) 5 5).bind fun q19 => (fG_init (cnM q19) q19).bind fun q20 => gd (wrT 105 q20 (grM (srM q14 (grM (srM q7 v0 2 (cnM q7)) v0 0) (Int32.toNatClampNeg 0) (cnM q13)) v0 1) 0) <| gd (obM q20 (cnM q19) 5 5) <| gd (obM q20 v0 3 9) <| gd (decide (grM (srM q20 (grM (srM q14 (grM (srM q7 v0 2 (cnM q7)) v0 0) (Int32.toNatClampNeg 0) (cnM q13)) v0 1) (Int32.toNatClampNeg 0) (cnM q19)) v0 2 ≠ 0)) <| (alF (srM q20 (grM (srM q14 (grM (srM q7 v0 2 (cnM q7)) v0 0) (Int32.toNatClampNeg 0) (cnM q13)) v0 1) (Int32.toNatClampNeg 0) (cnM q19)) 5 5).bind fun q25 => (fG_init (cnM q25) q25).bind fun q26 => gd (wrT 105 q26 (grM (srM q20 (grM (srM q14 (grM (srM q7 v0 2 (cnM q7)) v0 0) (Int32.toNatClampNeg 0) (cnM q13)) v0 1) (Int32.toNatClampNeg 0) (cnM q19)) v0 2) 0) <| gd (obM q26 (cnM q25) 5 5) <| gd (obM q26 v0 3 9) <| gd (decide (grM (srM q26 (grM (srM q20 (grM (srM q14 (grM (srM q7 v0 2 (cnM q7)) v0 0) (Int32.toNatClampNeg 0) (cnM q13)) v0 1) (Int32.toNatClampNeg 0) (cnM q19)) v0 2) (Int32.toNatClampNeg 0) (cnM q25)) v0 0 ≠ 0)) <| gd (lnT 103 q26 (grM (srM q26 (grM (srM q20 (grM (srM q14 (grM (srM q7 v0 2 (cnM q7)) v0 0) (Int32.toNatClampNeg 0) (cnM q13)) v0 1) (Int32.toNatClampNeg 0) (cnM q19)) v0 2) (Int32.toNatClampNeg 0) (cnM q25)) v0 0)) <| gd (decide ((tgM q26 (grM (srM q26 (grM (srM q20 (grM (srM q14 (grM (srM q7 v0 2 (cnM q7)) v0 0) (Int32.toNatClampNeg 0) (cnM q13)) v0 1) (Int32.toNatClampNeg 0) (cnM q19)) v0 2) (Int32.toNatClampNeg 0) (cnM q25)) v0 0)).2 = 7)) <| (alF (srM q26 (grM (srM q20 (grM (srM q14 (grM (srM q7 v0 2 (cnM q7)) v0 0) (Int32.toNatClampNeg 0) (cnM q13)) v0 1) (Int32.toNatClampNeg 0) (cnM q19)) v0 2) (Int32.toNatClampNeg 0) (cnM q25)) 1 9).bind fun q33 => (fH_init (cnM q33) v1 q33).bind fun q34 => gd (wrT 103 q34 (grM (srM q26 (grM (srM q20 (grM (srM q14 (grM (srM q7 v0 2 (cnM q7)) v0 0) (Int32.toNatClampNeg 0) (cnM q13)) v0 1) (Int32.toNatClampNeg 0) (cnM q19)) v0 2) (Int32.toNatClampNeg 0) (cnM q25)) v0 0) 1) <| gd (obM q34 (cnM q33) 1 9) <| gd (obM q34 v0 3 9) <| gd (decide (grM (srM q34 (grM (srM q26 (grM (srM q20 (grM (srM q14 (grM (srM q7 v0 2 (cnM q7)) v0 0) (Int32.toNatClampNeg 0) (cnM q13)) v0 1) (Int32.toNatClampNeg 0) (cnM q19)) v0 2) (Int32.toNatClampNeg 0) (cnM q25)) v0 0) (Int32.toNatClampNeg 1) (cnM q33)) v0 1 ≠ 0)) <| (alF (srM q34 (grM (srM q26 (grM (srM q20 (grM (srM q14 (grM (srM q7 v0 2 (cnM q7)) v0 0) (Int32.toNatClampNeg 0) (cnM q13)) v0 1) (Int32.toNatClampNeg 0) (cnM q19)) v0 2) (Int32.toNatClampNeg 0) (cnM q25)) v0 0) (Int32.toNatClampNeg 1) (cnM q33)) 5 5).bind fun q39 => (fG_init (cnM q39) q39).bind fun q40 => gd (wrT 105 q40 (grM (srM q34 (grM (srM q26 (grM (srM q20 (grM (srM q14 (grM (srM q7 v0 2 (cnM q7)) v0 0) (Int32.toNatClampNeg 0) (cnM q13)) v0 1) (Int32.toNatClampNeg 0) (cnM q19)) v0 2) (Int32.toNatClampNeg 0) (cnM q25)) v0 0) (Int32.toNatClampNeg 1) (cnM q33)) v0 1) 1) <| gd (obM q40 (cnM q39) 5 5) <| gd (obM q40 v0 3 9) <| gd (decide (grM (srM q40 (grM (srM q34 (grM (srM q26 (grM (srM q20 (grM (srM q14 (grM (srM q7 v0 2 (cnM q7)) v0 0) (Int32.toNatClampNeg 0) (cnM q13)) v0 1) (Int32.toNatClampNeg 0) (cnM q19)) v0 2) (Int32.toNatClampNeg 0) (cnM q25)) v0 0) (Int32.toNatClampNeg 1) (cnM q33)) v0 1) (Int32.toNatClampNeg 1) (cnM q39)) v0 2 ≠ 0)) <| (alF (srM q40 (grM (srM q34 (grM (srM q26 (grM (srM q20 (grM (srM q14 (grM (srM q7 v0 2 (cnM q7)) v0 0) (Int32.toNatClampNeg 0) (cnM q13)) v0 1) (Int32.toNatClampNeg 0) (cnM q19)) v0 2) (Int32.toNatClampNeg 0) (cnM q25)) v0 0) (Int32.toNatClampNeg 1) (cnM q33)) v0 1) (Int32.toNatClampNeg 1) (cnM q39)) 5 5).bind fun q45 => (fG_init (cnM q45) q45).bind fun q46 => gd (wrT 105 q46 (grM (srM q40 (grM (srM q34 (grM (srM q26 (grM (srM q20 (grM (srM q14 (grM (srM q7 v0 2 (cnM q7)) v0 0) (Int32.toNatClampNeg 0) (cnM q13)) v0 1) (Int32.toNatClampNeg 0) (cnM q19)) v0 2) (Int32.toNatClampNeg 0) (cnM q25)) v0 0) (Int32.toNatClampNeg 1) (cnM q33)) v0 1) (Int32.toNatClampNeg 1) (cnM q39)) v0 2) 1) <| gd (obM q46 (cnM q45) 5 5) <| gd (obM q46 v0 3 9) <| gd (decide (grM (srM q46 (grM (srM q40 (grM (srM q34 (grM (srM q26 (grM (srM q20 (grM (srM q14 (grM (srM q7 v0 2 (cnM q7)) v0 0) (Int32.toNatClampNeg 0) (cnM q13)) v0 1) (Int32.toNatClampNeg 0) (cnM q19)) v0 2) (Int32.toNatClampNeg 0) (cnM q25)) v0 0) (Int32.toNatClampNeg 1) (cnM q33)) v0 1) (Int32.toNatClampNeg 1) (cnM q39)) v0 2) (Int32.toNatClampNeg 1) (cnM q45)) v0 0 ≠ 0)) <| gd (lnT 103 q46 (grM (srM q46 (grM (srM q40 (grM (srM q34 (grM (srM q26 (grM (srM q20 (grM (srM q14 (grM (srM q7 v0 2 (cnM q7)) v0 0) (Int32.toNatClampNeg 0) (cnM q13)) v0 1) (Int32.toNatClampNeg 0) (cnM q19)) v0 2) (Int32.toNatClampNeg 0) (cnM q25)) v0 0) (Int32.toNatClampNeg 1) (cnM q33)) v0 1) (Int32.toNatClampNeg 1) (cnM q39)) v0 2) (Int32.toNatClampNeg 1) (cnM q45)) v0 0)) <| gd (decide ((tgM q46 (grM (srM q46 (grM (srM q40 (grM (srM q34 (grM (srM q26 (grM (srM q20 (grM (srM q14 (grM (srM q7 v0 2 (cnM q7)) v0 0) (Int32.toNatClampNeg 0) (cnM q13)) v0 1) (Int32.toNatClampNeg 0) (cnM q19)) v0 2) (Int32.toNatClampNeg 0) (cnM q25)) v0 0) (Int32.toNatClampNeg 1) (cnM q33)) v0 1) (Int32.toNatClampNeg 1) (cnM q39)) v0 2) (Int32.toNatClampNeg 1) (cnM q45)) v0 0)).2 = 7)) <| (alF (srM q46 (grM (srM q40 (grM (srM q34 (grM (srM q26 (grM (srM q20 (grM (srM q14 (grM (srM q7 v0 2 (cnM q7)) v0 0) (Int32.toNatClampNeg 0) (cnM q13)) v0 1) (Int32.toNatClampNeg 0) (cnM q19)) v0 2) (Int32.toNatClampNeg 0) (cnM q25)) v0 0) (Int32.toNatClampNeg 1) (cnM q33)) v0 1) (Int32.toNatClampNeg 1) (cnM q39)) v0 2) (Int32.toNatClampNeg 1) (cnM q45)) 1 9).bind fun q53 => (fH_init (cnM q53) v1 q53).bind fun q54 => gd (wrT 103 q54 (grM (srM q46 (grM (srM q40 (grM (srM q34 (grM (srM q26 (grM (srM q20 (grM (srM q14 (grM (srM q7 v0 2 (cnM q7)) v0 0) (Int32.toNatClampNeg 0) (cnM q13)) v0 1) (Int32.toNatClampNeg 0) (cnM q19)) v0 2) (Int32.toNatClampNeg 0) (cnM q25)) v0 0) (Int32.toNatClampNeg 1) (cnM q33)) v0 1) (Int32.toNatClampNeg 1) (cnM q39)) v0 2) (Int32.toNatClampNeg 1) (cnM q45)) v0 0) 2) <| gd (obM q54 (cnM q53) 1 9) <| gd (obM q54 v0 3 9) <| gd (decide (grM (srM q54 (grM (srM q46 (grM (srM q40 (grM (srM q34 (grM (srM q26 (grM (srM q20 (grM (srM q14 (grM (srM q7 v0 2 (cnM q7)) v0 0) (Int32.toNatClampNeg 0) (cnM q13)) v0 1) (Int32.toNatClampNeg 0) (cnM q19)) v0 2) (Int32.toNatClampNeg 0) (cnM q25)) v0 0) (Int32.toNatClampNeg 1) (cnM q33)) v0 1) (Int32.toNatClampNeg 1) (cnM q39)) v0 2) (Int32.toNatClampNeg 1) (cnM q45)) v0 0) (Int32.toNatClampNeg 2) (cnM q53)) v0 1 ≠ 0)) <| (alF (srM q54 (grM (srM q46 (grM (srM q40 (grM (srM q34 (grM (srM q26 (grM (srM q20 (grM (srM q14 (grM (srM q7 v0 2 (cnM q7)) v0 0) (Int32.toNatClampNeg 0) (cnM q13)) v0 1) (Int32.toNatClampNeg 0) (cnM q19)) v0 2) (Int32.toNatClampNeg 0) (cnM q25)) v0 0) (Int32.toNatClampNeg 1) (cnM q33)) v0 1) (Int32.toNatClampNeg 1) (cnM q39)) v0 2) (Int32.toNatClampNeg 1) (cnM q45)) v0 0) (Int32.toNatClampNeg 2) (cnM q53)) 5 5).bind fun q59 => (fG_init (cnM q59) q59).bind fun q60 => gd (wrT 105 q60 (grM (srM q54 (grM (srM q46 (grM (srM q40 (grM (srM q34 (grM (srM q26 (grM (srM q20 (grM (srM q14 (grM (srM q7 v0 2 (cnM q7)) v0 0) (Int32.toNatClampNeg 0) (cnM q13)) v0 1) (Int32.toNatClampNeg 0) (cnM q19)) v0 2) (Int32.toNatClampNeg 0) (cnM q25)) v0 0) (Int32.toNatClampNeg 1) (cnM q33)) v0 1) (Int32.toNatClampNeg 1) (cnM q39)) v0 2) (Int32.toNatClampNeg 1) (cnM q45)) v0 0) (Int32.toNatClampNeg 2) (cnM q53)) v0 1) 2) <| gd (obM q60 (cnM q59) 5 5) <| gd (obM q60 v0 3 9) <| gd (decide (grM (srM q60 (grM (srM q54 (grM (srM q46 (grM (srM q40 (grM (srM q34 (grM (srM q26 (grM (srM q20 (grM (srM q14 (grM (srM q7 v0 2 (cnM q7)) v0 0) (Int32.toNatClampNeg 0) (cnM q13)) v0 1) (Int32.toNatClampNeg 0) (cnM q19)) v0 2) (Int32.toNatClampNeg 0) (cnM q25)) v0 0) (Int32.toNatClampNeg 1) (cnM q33)) v0 1) (Int32.toNatClampNeg 1) (cnM q39)) v0 2) (Int32.toNatClampNeg 1) (cnM q45)) v0 0) (Int32.toNatClampNeg 2) (cnM q53)) v0 1) (Int32.toNatClampNeg 2) (cnM q59)) v0 2 ≠ 0)) <| (alF (srM q60 (grM (srM q54 (grM (srM q46 (grM (srM q40 (grM (srM q34 (grM (srM q26 (grM (srM q20 (grM (srM q14 (grM (srM q7 v0 2 (cnM q7)) v0 0) (Int32.toNatClampNeg 0) (cnM q13)) v0 1) (Int32.toNatClampNeg 0) (cnM q19)) v0 2) (Int32.toNatClampNeg 0) (cnM q25)) v0 0) (Int32.toNatClampNeg 1) (cnM q33)) v0 1) (Int32.toNatClampNeg 1) (cnM q39)) v0 2) (Int32.toNatClampNeg 1) (cnM q45)) v0 0) (Int32.toNatClampNeg 2) (cnM q53)) v0 1) (Int32.toNatClampNeg 2) (cnM q59)) 5 5).bind fun q65 => (fG_init (cnM q65) q65).bind fun q66 => gd (wrT 105 q66 (grM (srM q60 (grM (srM q54 (grM (srM q46 (grM (srM q40 (grM (srM q34 (grM (srM q26 (grM (srM q20 (grM (srM q14 (grM (srM q7 v0 2 (cnM q7)) v0 0) (Int32.toNatClampNeg 0) (cnM q13)) v0 1) (Int32.toNatClampNeg 0) (cnM q19)) v0 2) (Int32.toNatClampNeg 0) (cnM q25)) v0 0) (Int32.toNatClampNeg 1) (cnM q33)) v0 1) (Int32.toNatClampNeg 1) (cnM q39)) v0 2) (Int32.toNatClampNeg 1) (cnM q45)) v0 0) (Int32.toNatClampNeg 2) (cnM q53)) v0 1) (Int32.toNatClampNeg 2) (cnM q59)) v0 2) 2) <| gd (obM q66 (cnM q65) 5 5) <| gd (obM q66 v0 3 9) <| gd (decide (grM (srM q66 (grM (srM q60 (grM (srM q54 (grM (srM q46 (grM (srM q40 (grM (srM q34 (grM (srM q26 (grM (srM q20 (grM (srM q14 (grM (srM q7 v0 2 (cnM q7)) v0 0) (Int32.toNatClampNeg 0) (cnM q13)) v0 1) (Int32.toNatClampNeg 0) (cnM q19)) v0 2) (Int32.toNatClampNeg 0) (cnM q25)) v0 0) (Int32.toNatClampNeg 1) (cnM q33)) v0 1) (Int32.toNatClampNeg 1) (cnM q39)) v0 2) (Int32.toNatClampNeg 1) (cnM q45)) v0 0) (Int32.toNatClampNeg 2) (cnM q53)) v0 1) (Int32.toNatClampNeg 2) (cnM q59)) v0 2) (Int32.toNatClampNeg 2) (cnM q65)) v0 0 ≠ 0)) <| gd (lnT 103 q66 (grM (srM q66 (grM (srM q60 (grM (srM q54 (grM (srM q46 (grM (srM q40 (grM (srM q34 (grM (srM q26 (grM (srM q20 (grM (srM q14 (grM (srM q7 v0 2 (cnM q7)) v0 0) (Int32.toNatClampNeg 0) (cnM q13)) v0 1) (Int32.toNatClampNeg 0) (cnM q19)) v0 2) (Int32.toNatClampNeg 0) (cnM q25)) v0 0) (Int32.toNatClampNeg 1) (cnM q33)) v0 1) (Int32.toNatClampNeg 1) (cnM q39)) v0 2) (Int32.toNatClampNeg 1) (cnM q45)) v0 0) (Int32.toNatClampNeg 2) (cnM q53)) v0 1) (Int32.toNatClampNeg 2) (cnM q59)) v0 2) (Int32.toNatClampNeg 2) (cnM q65)) v0 0)) <| gd (decide ((tgM q66 (grM (srM q66 (grM (srM q60 (grM (srM q54 (grM (srM q46 (grM (srM q40 (grM (srM q34 (grM (srM q26 (grM (srM q20 (grM (srM q14 (grM (srM q7 v0 2 (cnM q7)) v0 0) (Int32.toNatClampNeg 0) (cnM q13)) v0 1) (Int32.toNatClampNeg 0) (cnM q19)) v0 2) (Int32.toNatClampNeg 0) (cnM q25)) v0 0) (Int32.toNatClampNeg 1) (cnM q33)) v0 1) (Int32.toNatClampNeg 1) (cnM q39)) v0 2) (Int32.toNatClampNeg 1) (cnM q45)) v0 0) (Int32.toNatClampNeg 2) (cnM q53)) v0 1) (Int32.toNatClampNeg 2) (cnM q59)) v0 2) (Int32.toNatClampNeg 2) (cnM q65)) v0 0)).2 = 7)) <| (alF (srM q66 (grM (srM q60 (grM (srM q54 (grM (srM q46 (grM (srM q40 (grM (srM q34 (grM (srM q26 (grM (srM q20 (grM (srM q14 (grM (srM q7 v0 2 (cnM q7)) v0 0) (Int32.toNatClampNeg 0) (cnM q13)) v0 1) (Int32.toNatClampNeg 0) (cnM q19)) v0 2) (Int32.toNatClampNeg 0) (cnM q25)) v0 0) (Int32.toNatClampNeg 1) (cnM q33)) v0 1) (Int32.toNatClampNeg 1) (cnM q39)) v0 2) (Int32.toNatClampNeg 1) (cnM q45)) v0 0) (Int32.toNatClampNeg 2) (cnM q53)) v0 1) (Int32.toNatClampNeg 2) (cnM q59)) v0 2) (Int32.toNatClampNeg 2) (cnM q65)) 1 9).bind fun q73 => (fH_init (cnM q73) v1 q73).bind fun q74 => gd (wrT 103 q74 (grM (srM q66 (grM (srM q60 (grM (srM q54 (grM (srM q46 (grM (srM q40 (grM (srM q34 (grM (srM q26 (grM (srM q20 (grM (srM q14 (grM (srM q7 v0 2 (cnM q7)) v0 0) (Int32.toNatClampNeg 0) (cnM q13)) v0 1) (Int32.toNatClampNeg 0) (cnM q19)) v0 2) (Int32.toNatClampNeg 0) (cnM q25)) v0 0) (Int32.toNatClampNeg 1) (cnM q33)) v0 1) (Int32.toNatClampNeg 1) (cnM q39)) v0 2) (Int32.toNatClampNeg 1) (cnM q45)) v0 0) (Int32.toNatClampNeg 2) (cnM q53)) v0 1) (Int32.toNatClampNeg 2) (cnM q59)) v0 2) (Int32.toNatClampNeg 2) (cnM q65)) v0 0) 3) <| gd (obM q74 (cnM q73) 1 9) <| gd (obM q74 v0 3 9) <| gd (decide (grM (srM q74 (grM (srM q66 (grM (srM q60 (grM (srM q54 (grM (srM q46 (grM (srM q40 (grM (srM q34 (grM (srM q26 (grM (srM q20 (grM (srM q14 (grM (srM q7 v0 2 (cnM q7)) v0 0) (Int32.toNatClampNeg 0) (cnM q13)) v0 1) (Int32.toNatClampNeg 0) (cnM q19)) v0 2) (Int32.toNatClampNeg 0) (cnM q25)) v0 0) (Int32.toNatClampNeg 1) (cnM q33)) v0 1) (Int32.toNatClampNeg 1) (cnM q39)) v0 2) (Int32.toNatClampNeg 1) (cnM q45)) v0 0) (Int32.toNatClampNeg 2) (cnM q53)) v0 1) (Int32.toNatClampNeg 2) (cnM q59)) v0 2) (Int32.toNatClampNeg 2) (cnM q65)) v0 0) (Int32.toNatClampNeg 3) (cnM q73)) v0 1 ≠ 0)) <| (alF (srM q74 (grM (srM q66 (grM (srM q60 (grM (srM q54 (grM (srM q46 (grM (srM q40 (grM (srM q34 (grM (srM q26 (grM (srM q20 (grM (srM q14 (grM (srM q7 v0 2 (cnM q7)) v0 0) (Int32.toNatClampNeg 0) (cnM q13)) v0 1) (Int32.toNatClampNeg 0) (cnM q19)) v0 2) (Int32.toNatClampNeg 0) (cnM q25)) v0 0) (Int32.toNatClampNeg 1) (cnM q33)) v0 1) (Int32.toNatClampNeg 1) (cnM q39)) v0 2) (Int32.toNatClampNeg 1) (cnM q45)) v0 0) (Int32.toNatClampNeg 2) (cnM q53)) v0 1) (Int32.toNatClampNeg 2) (cnM q59)) v0 2) (Int32.toNatClampNeg 2) (cnM q65)) v0 0) (Int32.toNatClampNeg 3) (cnM q73)) 5 5).bind fun q79 => (fG_init (cnM q79) q79).bind fun q80 => gd (wrT 105 q80 (grM (srM q74 (grM (srM q66 (grM (srM q60 (grM (srM q54 (grM (srM q46 (grM (srM q40 (grM (srM q34 (grM (srM q26 (grM (srM q20 (grM (srM q14 (grM (srM q7 v0 2 (cnM q7)) v0 0) (Int32.toNatClampNeg 0) (cnM q13)) v0 1) (Int32.toNatClampNeg 0) (cnM q19)) v0 2) (Int32.toNatClampNeg 0) (cnM q25)) v0 0) (Int32.toNatClampNeg 1) (cnM q33)) v0 1) (Int32.toNatClampNeg 1) (cnM q39)) v0 2) (Int32.toNatClampNeg 1) (cnM q45)) v0 0) (Int32.toNatClampNeg 2) (cnM q53)) v0 1) (Int32.toNatClampNeg 2) (cnM q59)) v0 2) (Int32.toNatClampNeg 2) (cnM q65)) v0 0) (Int32.toNatClampNeg 3) (cnM q73)) v0 1) 3) <| gd (obM q80 (cnM q79) 5 5) <| gd (obM q80 v0 3 9) <| gd (decide (grM (srM q80 (grM (srM q74 (grM (srM q66 (grM (srM q60 (grM (srM q54 (grM (srM q46 (grM (srM q40 (grM (srM q34 (grM (srM q26 (grM (srM q20 (grM (srM q14 (grM (srM q7 v0 2 (cnM q7)) v0 0) (Int32.toNatClampNeg 0) (cnM q13)) v0 1) (Int32.toNatClampNeg 0) (cnM q19)) v0 2) (Int32.toNatClampNeg 0) (cnM q25)) v0 0) (Int32.toNatClampNeg 1) (cnM q33)) v0 1) (Int32.toNatClampNeg 1) (cnM q39)) v0 2) (Int32.toNatClampNeg 1) (cnM q45)) v0 0) (Int32.toNatClampNeg 2) (cnM q53)) v0 1) (Int32.toNatClampNeg 2) (cnM q59)) v0 2) (Int32.toNatClampNeg 2) (cnM q65)) v0 0) (Int32.toNatClampNeg 3) (cnM q73)) v0 1) (Int32.toNatClampNeg 3) (cnM q79)) v0 2 ≠ 0)) <| (alF (srM q80 (grM (srM q74 (grM (srM q66 (grM (srM q60 (grM (srM q54 (grM (srM q46 (grM (srM q40 (grM (srM q34 (grM (srM q26 (grM (srM q20 (grM (srM q14 (grM (srM q7 v0 2 (cnM q7)) v0 0) (Int32.toNatClampNeg 0) (cnM q13)) v0 1) (Int32.toNatClampNeg 0) (cnM q19)) v0 2) (Int32.toNatClampNeg 0) (cnM q25)) v0 0) (Int32.toNatClampNeg 1) (cnM q33)) v0 1) (Int32.toNatClampNeg 1) (cnM q39)) v0 2) (Int32.toNatClampNeg 1) (cnM q45)) v0 0) (Int32.toNatClampNeg 2) (cnM q53)) v0 1) (Int32.toNatClampNeg 2) (cnM q59)) v0 2) (Int32.toNatClampNeg 2) (cnM q65)) v0 0) (Int32.toNatClampNeg 3) (cnM q73)) v0 1) (Int32.toNatClampNeg 3) (cnM q79)) 5 5).bind fun q85 => (fG_init (cnM q85) q85).bind fun q86 => gd (wrT 105 q86 (grM (srM q80 (grM (srM q74 (grM (srM q66 (grM (srM q60 (grM (srM q54 (grM (srM q46 (grM (srM q40 (grM (srM q34 (grM (srM q26 (grM (srM q20 (grM (srM q14 (grM (srM q7 v0 2 (cnM q7)) v0 0) (Int32.toNatClampNeg 0) (cnM q13)) v0 1) (Int32.toNatClampNeg 0) (cnM q19)) v0 2) (Int32.toNatClampNeg 0) (cnM q25)) v0 0) (Int32.toNatClampNeg 1) (cnM q33)) v0 1) (Int32.toNatClampNeg 1) (cnM q39)) v0 2) (Int32.toNatClampNeg 1) (cnM q45)) v0 0) (Int32.toNatClampNeg 2) (cnM q53)) v0 1) (Int32.toNatClampNeg 2) (cnM q59)) v0 2) (Int32.toNatClampNeg 2) (cnM q65)) v0 0) (Int32.toNatClampNeg 3) (cnM q73)) v0 1) (Int32.toNatClampNeg 3) (cnM q79)) v0 2) 3) <| gd (obM q86 (cnM q85) 5 5) <| gd (obM q86 v0 3 9) <| gd (decide (grM (srM q86 (grM (srM q80 (grM (srM q74 (grM (srM q66 (grM (srM q60 (grM (srM q54 (grM (srM q46 (grM (srM q40 (grM (srM q34 (grM (srM q26 (grM (srM q20 (grM (srM q14 (grM (srM q7 v0 2 (cnM q7)) v0 0) (Int32.toNatClampNeg 0) (cnM q13)) v0 1) (Int32.toNatClampNeg 0) (cnM q19)) v0 2) (Int32.toNatClampNeg 0) (cnM q25)) v0 0) (Int32.toNatClampNeg 1) (cnM q33)) v0 1) (Int32.toNatClampNeg 1) (cnM q39)) v0 2) (Int32.toNatClampNeg 1) (cnM q45)) v0 0) (Int32.toNatClampNeg 2) (cnM q53)) v0 1) (Int32.toNatClampNeg 2) (cnM q59)) v0 2) (Int32.toNatClampNeg 2) (cnM q65)) v0 0) (Int32.toNatClampNeg 3) (cnM q73)) v0 1) (Int32.toNatClampNeg 3) (cnM q79)) v0 2) (Int32.toNatClampNeg 3) (cnM q85)) v0 0 ≠ 0)) <| gd (lnT 103 q86 (grM (srM q86 (grM (srM q80 (grM (srM q74 (grM (srM q66 (grM (srM q60 (grM (srM q54 (grM (srM q46 (grM (srM q40 (grM (srM q34 (grM (srM q26 (grM (srM q20 (grM (srM q14 (grM (srM q7 v0 2 (cnM q7)) v0 0) (Int32.toNatClampNeg 0) (cnM q13)) v0 1) (Int32.toNatClampNeg 0) (cnM q19)) v0 2) (Int32.toNatClampNeg 0) (cnM q25)) v0 0) (Int32.toNatClampNeg 1) (cnM q33)) v0 1) (Int32.toNatClampNeg 1) (cnM q39)) v0 2) (Int32.toNatClampNeg 1) (cnM q45)) v0 0) (Int32.toNatClampNeg 2) (cnM q53)) v0 1) (Int32.toNatClampNeg 2) (cnM q59)) v0 2) (Int32.toNatClampNeg 2) (cnM q65)) v0 0) (Int32.toNatClampNeg 3) (cnM q73)) v0 1) (Int32.toNatClampNeg 3) (cnM q79)) v0 2) (Int32.toNatClampNeg 3) (cnM q85)) v0 0)) <| gd (decide ((tgM q86 (grM (srM q86 (grM (srM q80 (grM (srM q74 (grM (srM q66 (grM (srM q60 (grM (srM q54 (grM (srM q46 (grM (srM q40 (grM (srM q34 (grM (srM q26 (grM (srM q20 (grM (srM q14 (grM (srM q7 v0 2 (cnM q7)) v0 0) (Int32.toNatClampNeg 0) (cnM q13)) v0 1) (Int32.toNatClampNeg 0) (cnM q19)) v0 2) (Int32.toNatClampNeg 0) (cnM q25)) v0 0) (Int32.toNatClampNeg 1) (cnM q33)) v0 1) (Int32.toNatClampNeg 1) (cnM q39)) v0 2) (Int32.toNatClampNeg 1) (cnM q45)) v0 0) (Int32.toNatClampNeg 2) (cnM q53)) v0 1) (Int32.toNatClampNeg 2) (cnM q59)) v0 2) (Int32.toNatClampNeg 2) (cnM q65)) v0 0) (Int32.toNatClampNeg 3) (cnM q73)) v0 1) (Int32.toNatClampNeg 3) (cnM q79)) v0 2) (Int32.toNatClampNeg 3) (cnM q85)) v0 0)).2 = 7)) <| (alF (srM q86 (grM (srM q80 (grM (srM q74 (grM (srM q66 (grM (srM q60 (grM (srM q54 (grM (srM q46 (grM (srM q40 (grM (srM q34 (grM (srM q26 (grM (srM q20 (grM (srM q14 (grM (srM q7 v0 2 (cnM q7)) v0 0) (Int32.toNatClampNeg 0) (cnM q13)) v0 1) (Int32.toNatClampNeg 0) (cnM q19)) v0 2) (Int32.toNatClampNeg 0) (cnM q25)) v0 0) (Int32.toNatClampNeg 1) (cnM q33)) v0 1) (Int32.toNatClampNeg 1) (cnM q39)) v0 2) (Int32.toNatClampNeg 1) (cnM q45)) v0 0) (Int32.toNatClampNeg 2) (cnM q53)) v0 1) (Int32.toNatClampNeg 2) (cnM q59)) v0 2) (Int32.toNatClampNeg 2) (cnM q65)) v0 0) (Int32.toNatClampNeg 3) (cnM q73)) v0 1) (Int32.toNatClampNeg 3) (cnM q79)) v0 2) (Int32.toNatClampNeg 3) (cnM q85)) 1 9).bind fun q93 => (fH_init (cnM q93) v1 q93).bind fun q94 => gd (wrT 103 q94 (grM (srM q86 (grM (srM q80 (grM (srM q74 (grM (srM q66 (grM (srM q60 (grM (srM q54 (grM (srM q46 (grM (srM q40 (grM (srM q34 (grM (srM q26 (grM (srM q20 (grM (srM q14 (grM (srM q7 v0 2 (cnM q7)) v0 0) (Int32.toNatClampNeg 0) (cnM q13)) v0 1) (Int32.toNatClampNeg 0) (cnM q19)) v0 2) (Int32.toNatClampNeg 0) (cnM q25)) v0 0) (Int32.toNatClampNeg 1) (cnM q33)) v0 1) (Int32.toNatClampNeg 1) (cnM q39)) v0 2) (Int32.toNatClampNeg 1) (cnM q45)) v0 0) (Int32.toNatClampNeg 2) (cnM q53)) v0 1) (Int32.toNatClampNeg 2) (cnM q59)) v0 2) (Int32.toNatClampNeg 2) (cnM q65)) v0 0) (Int32.toNatClampNeg 3) (cnM q73)) v0 1) (Int32.toNatClampNeg 3) (cnM q79)) v0 2) (Int32.toNatClampNeg 3) (cnM q85)) v0 0) 4) <| gd (obM q94 (cnM q93) 1 9) <| gd (obM q94 v0 3 9) <| gd (decide (grM (srM q94 (grM (srM q86 (grM (srM q80 (grM (srM q74 (grM (srM q66 (grM (srM q60 (grM (srM q54 (grM (srM q46 (grM (srM q40 (grM (srM q34 (grM (srM q26 (grM (srM q20 (grM (srM q14 (grM (srM q7 v0 2 (cnM q7)) v0 0) (Int32.toNatClampNeg 0) (cnM q13)) v0 1) (Int32.toNatClampNeg 0) (cnM q19)) v0 2) (Int32.toNatClampNeg 0) (cnM q25)) v0 0) (Int32.toNatClampNeg 1) (cnM q33)) v0 1) (Int32.toNatClampNeg 1) (cnM q39)) v0 2) (Int32.toNatClampNeg 1) (cnM q45)) v0 0) (Int32.toNatClampNeg 2) (cnM q53)) v0 1) (Int32.toNatClampNeg 2) (cnM q59)) v0 2) (Int32.toNatClampNeg 2) (cnM q65)) v0 0) (Int32.toNatClampNeg 3) (cnM q73)) v0 1) (Int32.toNatClampNeg 3) (cnM q79)) v0 2) (Int32.toNatClampNeg 3) (cnM q85)) v0 0) (Int32.toNatClampNeg 4) (cnM q93)) v0 1 ≠ 0)) <| (alF (srM q94 (grM (srM q86 (grM (srM q80 (grM (srM q74 (grM (srM q66 (grM (srM q60 (grM (srM q54 (grM (srM q46 (grM (srM q40 (grM (srM q34 (grM (srM q26 (grM (srM q20 (grM (srM q14 (grM (srM q7 v0 2 (cnM q7)) v0 0) (Int32.toNatClampNeg 0) (cnM q13)) v0 1) (Int32.toNatClampNeg 0) (cnM q19)) v0 2) (Int32.toNatClampNeg 0) (cnM q25)) v0 0) (Int32.toNatClampNeg 1) (cnM q33)) v0 1) (Int32.toNatClampNeg 1) (cnM q39)) v0 2) (Int32.toNatClampNeg 1) (cnM q45)) v0 0) (Int32.toNatClampNeg 2) (cnM q53)) v0 1) (Int32.toNatClampNeg 2) (cnM q59)) v0 2) (Int32.toNatClampNeg 2) (cnM q65)) v0 0) (Int32.toNatClampNeg 3) (cnM q73)) v0 1) (Int32.toNatClampNeg 3) (cnM q79)) v0 2) (Int32.toNatClampNeg 3) (cnM q85)) v0 0) (Int32.toNatClampNeg 4) (cnM q93)) 5 5).bind fun q99 => (fG_init (cnM q99) q99).bind fun q100 => gd (wrT 105 q100 (grM (srM q94 (grM (srM q86 (grM (srM q80 (grM (srM q74 (grM (srM q66 (grM (srM q60 (grM (srM q54 (grM (srM q46 (grM (srM q40 (grM (srM q34 (grM (srM q26 (grM (srM q20 (grM (srM q14 (grM (srM q7 v0 2 (cnM q7)) v0 0) (Int32.toNatClampNeg 0) (cnM q13)) v0 1) (Int32.toNatClampNeg 0) (cnM q19)) v0 2) (Int32.toNatClampNeg 0) (cnM q25)) v0 0) (Int32.toNatClampNeg 1) (cnM q33)) v0 1) (Int32.toNatClampNeg 1) (cnM q39)) v0 2) (Int32.toNatClampNeg 1) (cnM q45)) v0 0) (Int32.toNatClampNeg 2) (cnM q53)) v0 1) (Int32.toNatClampNeg 2) (cnM q59)) v0 2) (Int32.toNatClampNeg 2) (cnM q65)) v0 0) (Int32.toNatClampNeg 3) (cnM q73)) v0 1) (Int32.toNatClampNeg 3) (cnM q79)) v0 2) (Int32.toNatClampNeg 3) (cnM q85)) v0 0) (Int32.toNatClampNeg 4) (cnM q93)) v0 1) 4) <| gd (obM q100 (cnM q99) 5 5) <| gd (obM q100 v0 3 9) <| gd (decide (grM (srM q100 (grM (srM q94 (grM (srM q86 (grM (srM q80 (grM (srM q74 (grM (srM q66 (grM (srM q60 (grM (srM q54 (grM (srM q46 (grM (srM q40 (grM (srM q34 (grM (srM q26 (grM (srM q20 (grM (srM q14 (grM (srM q7 v0 2 (cnM q7)) v0 0) (Int32.toNatClampNeg 0) (cnM q13)) v0 1) (Int32.toNatClampNeg 0) (cnM q19)) v0 2) (Int32.toNatClampNeg 0) (cnM q25)) v0 0) (Int32.toNatClampNeg 1) (cnM q33)) v0 1) (Int32.toNatClampNeg 1) (cnM q39)) v0 2) (Int32.toNatClampNeg 1) (cnM q45)) v0 0) (Int32.toNatClampNeg 2) (cnM q53)) v0 1) (Int32.toNatClampNeg 2) (cnM q59)) v0 2) (Int32.toNatClampNeg 2) (cnM q65)) v0 0) (Int32.toNatClampNeg 3) (cnM q73)) v0 1) (Int32.toNatClampNeg 3) (cnM q79)) v0 2) (Int32.toNatClampNeg 3) (cnM q85)) v0 0) (Int32.toNatClampNeg 4) (cnM q93)) v0 1) (Int32.toNatClampNeg 4) (cnM q99)) v0 2 ≠ 0)) <| (alF (srM q100 (grM (srM q94 (grM (srM q86 (grM (srM q80 (grM (srM q74 (grM (srM q66 (grM (srM q60 (grM (srM q54 (grM (srM q46 (grM (srM q40 (grM (srM q34 (grM (srM q26 (grM (srM q20 (grM (srM q14 (grM (srM q7 v0 2 (cnM q7)) v0 0) (Int32.toNatClampNeg 0) (cnM q13)) v0 1) (Int32.toNatClampNeg 0) (cnM q19)) v0 2) (Int32.toNatClampNeg 0) (cnM q25)) v0 0) (Int32.toNatClampNeg 1) (cnM q33)) v0 1) (Int32.toNatClampNeg 1) (cnM q39)) v0 2) (Int32.toNatClampNeg 1) (cnM q45)) v0 0) (Int32.toNatClampNeg 2) (cnM q53)) v0 1) (Int32.toNatClampNeg 2) (cnM q59)) v0 2) (Int32.toNatClampNeg 2) (cnM q65)) v0 0) (Int32.toNatClampNeg 3) (cnM q73)) v0 1) (Int32.toNatClampNeg 3) (cnM q79)) v0 2) (Int32.toNatClampNeg 3) (cnM q85)) v0 0) (Int32.toNatClampNeg 4) (cnM q93)) v0 1) (Int32.toNatClampNeg 4) (cnM q99)) 5 5).bind fun q105 => (fG_init (cnM q105) q105).bind fun q106 => gd (wrT 105 q106 (grM (srM q100 (grM (srM q94 (grM (srM q86 (grM (srM q80 (grM (srM q74 (grM (srM q66 (grM (srM q60 (grM (srM q54 (grM (srM q46 (grM (srM q40 (grM (srM q34 (grM (srM q26 (grM (srM q20 (grM (srM q14 (grM (srM q7 v0 2 (cnM q7)) v0 0) (Int32.toNatClampNeg 0) (cnM q13)) v0 1) (Int32.toNatClampNeg 0) (cnM q19)) v0 2) (Int32.toNatClampNeg 0) (cnM q25)) v0 0) (Int32.toNatClampNeg 1) (cnM q33)) v0 1) (Int32.toNatClampNeg 1) (cnM q39)) v0 2) (Int32.toNatClampNeg 1) (cnM q45)) v0 0) (Int32.toNatClampNeg 2) (cnM q53)) v0 1) (Int32.toNatClampNeg 2) (cnM q59)) v0 2) (Int32.toNatClampNeg 2) (cnM q65)) v0 0) (Int32.toNatClampNeg 3) (cnM q73)) v0 1) (Int32.toNatClampNeg 3) (cnM q79)) v0 2) (Int32.toNatClampNeg 3) (cnM q85)) v0 0) (Int32.toNatClampNeg 4) (cnM q93)) v0 1) (Int32.toNatClampNeg 4) (cnM q99)) v0 2) 4) <| gd (obM q106 (cnM q105) 5 5) <| gd (obM q106 v0 3 9) <| gd (decide (grM (srM q106 (grM (srM q100 (grM (srM q94 (grM (srM q86 (grM (srM q80 (grM (srM q74 (grM (srM q66 (grM (srM q60 (grM (srM q54 (grM (srM q46 (grM (srM q40 (grM (srM q34 (grM (srM q26 (grM (srM q20 (grM (srM q14 (grM (srM q7 v0 2 (cnM q7)) v0 0) (Int32.toNatClampNeg 0) (cnM q13)) v0 1) (Int32.toNatClampNeg 0) (cnM q19)) v0 2) (Int32.toNatClampNeg 0) (cnM q25)) v0 0) (Int32.toNatClampNeg 1) (cnM q33)) v0 1) (Int32.toNatClampNeg 1) (cnM q39)) v0 2) (Int32.toNatClampNeg 1) (cnM q45)) v0 0) (Int32.toNatClampNeg 2) (cnM q53)) v0 1) (Int32.toNatClampNeg 2) (cnM q59)) v0 2) (Int32.toNatClampNeg 2) (cnM q65)) v0 0) (Int32.toNatClampNeg 3) (cnM q73)) v0 1) (Int32.toNatClampNeg 3) (cnM q79)) v0 2) (Int32.toNatClampNeg 3) (cnM q85)) v0 0) (Int32.toNatClampNeg 4) (cnM q93)) v0 1) (Int32.toNatClampNeg 4) (cnM q99)) v0 2) (Int32.toNatClampNeg 4) (cnM q105)) v0 0 ≠ 0)) <| gd (lnT 103 q106 (grM (srM q106 (grM (srM q100 (grM (srM q94 (grM (srM q86 (grM (srM q80 (grM (srM q74 (grM (srM q66 (grM (srM q60 (grM (srM q54 (grM (srM q46 (grM (srM q40 (grM (srM q34 (grM (srM q26 (grM (srM q20 (grM (srM q14 (grM (srM q7 v0 2 (cnM q7)) v0 0) (Int32.toNatClampNeg 0) (cnM q13)) v0 1) (Int32.toNatClampNeg 0) (cnM q19)) v0 2) (Int32.toNatClampNeg 0) (cnM q25)) v0 0) (Int32.toNatClampNeg 1) (cnM q33)) v0 1) (Int32.toNatClampNeg 1) (cnM q39)) v0 2) (Int32.toNatClampNeg 1) (cnM q45)) v0 0) (Int32.toNatClampNeg 2) (cnM q53)) v0 1) (Int32.toNatClampNeg 2) (cnM q59)) v0 2) (Int32.toNatClampNeg 2) (cnM q65)) v0 0) (Int32.toNatClampNeg 3) (cnM q73)) v0 1) (Int32.toNatClampNeg 3) (cnM q79)) v0 2) (Int32.toNatClampNeg 3) (cnM q85)) v0 0) (Int32.toNatClampNeg 4) (cnM q93)) v0 1) (Int32.toNatClampNeg 4) (cnM q99)) v0 2) (Int32.toNatClampNeg 4) (cnM q105)) v0 0)) <| gd (decide ((tgM q106 (grM (srM q106 (grM (srM q100 (grM (srM q94 (grM (srM q86 (grM (srM q80 (grM (srM q74 (grM (srM q66 (grM (srM q60 (grM (srM q54 (grM (srM q46 (grM (srM q40 (grM (srM q34 (grM (srM q26 (grM (srM q20 (grM (srM q14 (grM (srM q7 v0 2 (cnM q7)) v0 0) (Int32.toNatClampNeg 0) (cnM q13)) v0 1) (Int32.toNatClampNeg 0) (cnM q19)) v0 2) (Int32.toNatClampNeg 0) (cnM q25)) v0 0) (Int32.toNatClampNeg 1) (cnM q33)) v0 1) (Int32.toNatClampNeg 1) (cnM q39)) v0 2) (Int32.toNatClampNeg 1) (cnM q45)) v0 0) (Int32.toNatClampNeg 2) (cnM q53)) v0 1) (Int32.toNatClampNeg 2) (cnM q59)) v0 2) (Int32.toNatClampNeg 2) (cnM q65)) v0 0) (Int32.toNatClampNeg 3) (cnM q73)) v0 1) (Int32.toNatClampNeg 3) (cnM q79)) v0 2) (Int32.toNatClampNeg 3) (cnM q85)) v0 0) (Int32.toNatClampNeg 4) (cnM q93)) v0 1) (Int32.toNatClampNeg 4) (cnM q99)) v0 2) (Int32.toNatClampNeg 4) (cnM q105)) v0 0)).2 = 7)) <| (alF (srM q106 (grM (srM q100 (grM (srM q94 (grM (srM q86 (grM (srM q80 (grM (srM q74 (grM (srM q66 (grM (srM q60 (grM (srM q54 (grM (srM q46 (grM (srM q40 (grM (srM q34 (grM (srM q26 (grM (srM q20 (grM (srM q14 (grM (srM q7 v0 2 (cnM q7)) v0 0) (Int32.toNatClampNeg 0) (cnM q13)) v0 1) (Int32.toNatClampNeg 0) (cnM q19)) v0 2) (Int32.toNatClampNeg 0) (cnM q25)) v0 0) (Int32.toNatClampNeg 1) (cnM q33)) v0 1) (Int32.toNatClampNeg 1) (cnM q39)) v0 2) (Int32.toNatClampNeg 1) (cnM q45)) v0 0) (Int32.toNatClampNeg 2) (cnM q53)) v0 1) (Int32.toNatClampNeg 2) (cnM q59)) v0 2) (Int32.toNatClampNeg 2) (cnM q65)) v0 0) (Int32.toNatClampNeg 3) (cnM q73)) v0 1) (Int32.toNatClampNeg 3) (cnM q79)) v0 2) (Int32.toNatClampNeg 3) (cnM q85)) v0 0) (Int32.toNatClampNeg 4) (cnM q93)) v0 1) (Int32.toNatClampNeg 4) (cnM q99)) v0 2) (Int32.toNatClampNeg 4) (cnM q105)) 1 9).bind fun q113 => (fH_init (cnM q113) v1 q113).bind fun q114 => gd (wrT 103 q114 (grM (srM q106 (grM (srM q100 (grM (srM q94 (grM (srM q86 (grM (srM q80 (grM (srM q74 (grM (srM q66 (grM (srM q60 (grM (srM q54 (grM (srM q46 (grM (srM q40 (grM (srM q34 (grM (srM q26 (grM (srM q20 (grM (srM q14 (grM (srM q7 v0 2 (cnM q7)) v0 0) (Int32.toNatClampNeg 0) (cnM q13)) v0 1) (Int32.toNatClampNeg 0) (cnM q19)) v0 2) (Int32.toNatClampNeg 0) (cnM q25)) v0 0) (Int32.toNatClampNeg 1) (cnM q33)) v0 1) (Int32.toNatClampNeg 1) (cnM q39)) v0 2) (Int32.toNatClampNeg 1) (cnM q45)) v0 0) (Int32.toNatClampNeg 2) (cnM q53)) v0 1) (Int32.toNatClampNeg 2) (cnM q59)) v0 2) (Int32.toNatClampNeg 2) (cnM q65)) v0 0) (Int32.toNatClampNeg 3) (cnM q73)) v0 1) (Int32.toNatClampNeg 3) (cnM q79)) v0 2) (Int32.toNatClampNeg 3) (cnM q85)) v0 0) (Int32.toNatClampNeg 4) (cnM q93)) v0 1) (Int32.toNatClampNeg 4) (cnM q99)) v0 2) (Int32.toNatClampNeg 4) (cnM q105)) v0 0) 5) <| gd (obM q114 (cnM q113) 1 9) <| gd (obM q114 v0 3 9) <| gd (decide (grM (srM q114 (grM (srM q106 (grM (srM q100 (grM (srM q94 (grM (srM q86 (grM (srM q80 (grM (srM q74 (grM (srM q66 (grM (srM q60 (grM (srM q54 (grM (srM q46 (grM (srM q40 (grM (srM q34 (grM (srM q26 (grM (srM q20 (grM (srM q14 (grM (srM q7 v0 2 (cnM q7)) v0 0) (Int32.toNatClampNeg 0) (cnM q13)) v0 1) (Int32.toNatClampNeg 0) (cnM q19)) v0 2) (Int32.toNatClampNeg 0) (cnM q25)) v0 0) (Int32.toNatClampNeg 1) (cnM q33)) v0 1) (Int32.toNatClampNeg 1) (cnM q39)) v0 2) (Int32.toNatClampNeg 1) (cnM q45)) v0 0) (Int32.toNatClampNeg 2) (cnM q53)) v0 1) (Int32.toNatClampNeg 2) (cnM q59)) v0 2) (Int32.toNatClampNeg 2) (cnM q65)) v0 0) (Int32.toNatClampNeg 3) (cnM q73)) v0 1) (Int32.toNatClampNeg 3) (cnM q79)) v0 2) (Int32.toNatClampNeg 3) (cnM q85)) v0 0) (Int32.toNatClampNeg 4) (cnM q93)) v0 1) (Int32.toNatClampNeg 4) (cnM q99)) v0 2) (Int32.toNatClampNeg 4) (cnM q105)) v0 0) (Int32.toNatClampNeg 5) (cnM q113)) v0 1 ≠ 0)) <| (alF (srM q114 (grM (srM q106 (grM (srM q100 (grM (srM q94 (grM (srM q86 (grM (srM q80 (grM (srM q74 (grM (srM q66 (grM (srM q60 (grM (srM q54 (grM (srM q46 (grM (srM q40 (grM (srM q34 (grM (srM q26 (grM (srM q20 (grM (srM q14 (grM (srM q7 v0 2 (cnM q7)) v0 0) (Int32.toNatClampNeg 0) (cnM q13)) v0 1) (Int32.toNatClampNeg 0) (cnM q19)) v0 2) (Int32.toNatClampNeg 0) (cnM q25)) v0 0) (Int32.toNatClampNeg 1) (cnM q33)) v0 1) (Int32.toNatClampNeg 1) (cnM q39)) v0 2) (Int32.toNatClampNeg 1) (cnM q45)) v0 0) (Int32.toNatClampNeg 2) (cnM q53)) v0 1) (Int32.toNatClampNeg 2) (cnM q59)) v0 2) (Int32.toNatClampNeg 2) (cnM q65)) v0 0) (Int32.toNatClampNeg 3) (cnM q73)) v0 1) (Int32.toNatClampNeg 3) (cnM q79)) v0 2) (Int32.toNatClampNeg 3) (cnM q85)) v0 0) (Int32.toNatClampNeg 4) (cnM q93)) v0 1) (Int32.toNatClampNeg 4) (cnM q99)) v0 2) (Int32.toNatClampNeg 4) (cnM q105)) v0 0) (Int32.toNatClampNeg 5) (cnM q113)) 5 5).bind fun q119 => (fG_init (cnM q119) q119).bind fun q120 => gd (wrT 105 q120 (grM (srM q114 (grM (srM q106 (grM (srM q100 (grM (srM q94 (grM (srM q86 (grM (srM q80 (grM (srM q74 (grM (srM q66 (grM (srM q60 (grM (srM q54 (grM (srM q46 (grM (srM q40 (grM (srM q34 (grM (srM q26 (grM (srM q20 (grM (srM q14 (grM (srM q7 v0 2 (cnM q7)) v0 0) (Int32.toNatClampNeg 0) (cnM q13)) v0 1) (Int32.toNatClampNeg 0) (cnM q19)) v0 2) (Int32.toNatClampNeg 0) (cnM q25)) v0 0) (Int32.toNatClampNeg 1) (cnM q33)) v0 1) (Int32.toNatClampNeg 1) (cnM q39)) v0 2) (Int32.toNatClampNeg 1) (cnM q45)) v0 0) (Int32.toNatClampNeg 2) (cnM q53)) v0 1) (Int32.toNatClampNeg 2) (cnM q59)) v0 2) (Int32.toNatClampNeg 2) (cnM q65)) v0 0) (Int32.toNatClampNeg 3) (cnM q73)) v0 1) (Int32.toNatClampNeg 3) (cnM q79)) v0 2) (Int32.toNatClampNeg 3) (cnM q85)) v0 0) (Int32.toNatClampNeg 4) (cnM q93)) v0 1) (Int32.toNatClampNeg 4) (cnM q99)) v0 2) (Int32.toNatClampNeg 4) (cnM q105)) v0 0) (Int32.toNatClampNeg 5) (cnM q113)) v0 1) 5) <| gd (obM q120 (cnM q119) 5 5) <| gd (obM q120 v0 3 9) <| gd (decide (grM (srM q120 (grM (srM q114 (grM (srM q106 (grM (srM q100 (grM (srM q94 (grM (srM q86 (grM (srM q80 (grM (srM q74 (grM (srM q66 (grM (srM q60 (grM (srM q54 (grM (srM q46 (grM (srM q40 (grM (srM q34 (grM (srM q26 (grM (srM q20 (grM (srM q14 (grM (srM q7 v0 2 (cnM q7)) v0 0) (Int32.toNatClampNeg 0) (cnM q13)) v0 1) (Int32.toNatClampNeg 0) (cnM q19)) v0 2) (Int32.toNatClampNeg 0) (cnM q25)) v0 0) (Int32.toNatClampNeg 1) (cnM q33)) v0 1) (Int32.toNatClampNeg 1) (cnM q39)) v0 2) (Int32.toNatClampNeg 1) (cnM q45)) v0 0) (Int32.toNatClampNeg 2) (cnM q53)) v0 1) (Int32.toNatClampNeg 2) (cnM q59)) v0 2) (Int32.toNatClampNeg 2) (cnM q65)) v0 0) (Int32.toNatClampNeg 3) (cnM q73)) v0 1) (Int32.toNatClampNeg 3) (cnM q79)) v0 2) (Int32.toNatClampNeg 3) (cnM q85)) v0 0) (Int32.toNatClampNeg 4) (cnM q93)) v0 1) (Int32.toNatClampNeg 4) (cnM q99)) v0 2) (Int32.toNatClampNeg 4) (cnM q105)) v0 0) (Int32.toNatClampNeg 5) (cnM q113)) v0 1) (Int32.toNatClampNeg 5) (cnM q119)) v0 2 ≠ 0)) <| (alF (srM q120 (grM (srM q114 (grM (srM q106 (grM (srM q100 (grM (srM q94 (grM (srM q86 (grM (srM q80 (grM (srM q74 (grM (srM q66 (grM (srM q60 (grM (srM q54 (grM (srM q46 (grM (srM q40 (grM (srM q34 (grM (srM q26 (grM (srM q20 (grM (srM q14 (grM (srM q7 v0 2 (cnM q7)) v0 0) (Int32.toNatClampNeg 0) (cnM q13)) v0 1) (Int32.toNatClampNeg 0) (cnM q19)) v0 2) (Int32.toNatClampNeg 0) (cnM q25)) v0 0) (Int32.toNatClampNeg 1) (cnM q33)) v0 1) (Int32.toNatClampNeg 1) (cnM q39)) v0 2) (Int32.toNatClampNeg 1) (cnM q45)) v0 0) (Int32.toNatClampNeg 2) (cnM q53)) v0 1) (Int32.toNatClampNeg 2) (cnM q59)) v0 2) (Int32.toNatClampNeg 2) (cnM q65)) v0 0) (Int32.toNatClampNeg 3) (cnM q73)) v0 1) (Int32.toNatClampNeg 3) (cnM q79)) v0 2) (Int32.toNatClampNeg 3) (cnM q85)) v0 0) (Int32.toNatClampNeg 4) (cnM q93)) v0 1) (Int32.toNatClampNeg 4) (cnM q99)) v0 2) (Int32.toNatClampNeg 4) (cnM q105)) v0 0) (Int32.toNatClampNeg 5) (cnM q113)) v0 1) (Int32.toNatClampNeg 5) (cnM q119)) 5 5).bind fun q125 => (fG_init (cnM q125) q125).bind fun q126 => gd (wrT 105 q126 (grM (srM q120 (grM (srM q114 (grM (srM q106 (grM (srM q100 (grM (srM q94 (grM (srM q86 (grM (srM q80 (grM (srM q74 (grM (srM q66 (grM (srM q60 (grM (srM q54 (grM (srM q46 (grM (srM q40 (grM (srM q34 (grM (srM q26 (grM (srM q20 (grM (srM q14 (grM (srM q7 v0 2 (cnM q7)) v0 0) (Int32.toNatClampNeg 0) (cnM q13)) v0 1) (Int32.toNatClampNeg 0) (cnM q19)) v0 2) (Int32.toNatClampNeg 0) (cnM q25)) v0 0) (Int32.toNatClampNeg 1) (cnM q33)) v0 1) (Int32.toNatClampNeg 1) (cnM q39)) v0 2) (Int32.toNatClampNeg 1) (cnM q45)) v0 0) (Int32.toNatClampNeg 2) (cnM q53)) v0 1) (Int32.toNatClampNeg 2) (cnM q59)) v0 2) (Int32.toNatClampNeg 2) (cnM q65)) v0 0) (Int32.toNatClampNeg 3) (cnM q73)) v0 1) (Int32.toNatClampNeg 3) (cnM q79)) v0 2) (Int32.toNatClampNeg 3) (cnM q85)) v0 0) (Int32.toNatClampNeg 4) (cnM q93)) v0 1) (Int32.toNatClampNeg 4) (cnM q99)) v0 2) (Int32.toNatClampNeg 4) (cnM q105)) v0 0) (Int32.toNatClampNeg 5) (cnM q113)) v0 1) (Int32.toNatClampNeg 5) (cnM q119)) v0 2) 5) <| gd (obM q126 (cnM q125) 5 5) <| gd (obM q126 v0 3 9) <| gd (decide (grM (srM q126 (grM (srM q120 (grM (srM q114 (grM (srM q106 (grM (srM q100 (grM (srM q94 (grM (srM q86 (grM (srM q80 (grM (srM q74 (grM (srM q66 (grM (srM q60 (grM (srM q54 (grM (srM q46 (grM (srM q40 (grM (srM q34 (grM (srM q26 (grM (srM q20 (grM (srM q14 (grM (srM q7 v0 2 (cnM q7)) v0 0) (Int32.toNatClampNeg 0) (cnM q13)) v0 1) (Int32.toNatClampNeg 0) (cnM q19)) v0 2) (Int32.toNatClampNeg 0) (cnM q25)) v0 0) (Int32.toNatClampNeg 1) (cnM q33)) v0 1) (Int32.toNatClampNeg 1) (cnM q39)) v0 2) (Int32.toNatClampNeg 1) (cnM q45)) v0 0) (Int32.toNatClampNeg 2) (cnM q53)) v0 1) (Int32.toNatClampNeg 2) (cnM q59)) v0 2) (Int32.toNatClampNeg 2) (cnM q65)) v0 0) (Int32.toNatClampNeg 3) (cnM q73)) v0 1) (Int32.toNatClampNeg 3) (cnM q79)) v0 2) (Int32.toNatClampNeg 3) (cnM q85)) v0 0) (Int32.toNatClampNeg 4) (cnM q93)) v0 1) (Int32.toNatClampNeg 4) (cnM q99)) v0 2) (Int32.toNatClampNeg 4) (cnM q105)) v0 0) (Int32.toNatClampNeg 5) (cnM q113)) v0 1) (Int32.toNatClampNeg 5) (cnM q119)) v0 2) (Int32.toNatClampNeg 5) (cnM q125)) v0 0 ≠ 0)) <| gd (lnT 103 q126 (grM (srM q126 (grM (srM q120 (grM (srM q114 (grM (srM q106 (grM (srM q100 (grM (srM q94 (grM (srM q86 (grM (srM q80 (grM (srM q74 (grM (srM q66 (grM (srM q60 (grM (srM q54 (grM (srM q46 (grM (srM q40 (grM (srM q34 (grM (srM q26 (grM (srM q20 (grM (srM q14 (grM (srM q7 v0 2 (cnM q7)) v0 0) (Int32.toNatClampNeg 0) (cnM q13)) v0 1) (Int32.toNatClampNeg 0) (cnM q19)) v0 2) (Int32.toNatClampNeg 0) (cnM q25)) v0 0) (Int32.toNatClampNeg 1) (cnM q33)) v0 1) (Int32.toNatClampNeg 1) (cnM q39)) v0 2) (Int32.toNatClampNeg 1) (cnM q45)) v0 0) (Int32.toNatClampNeg 2) (cnM q53)) v0 1) (Int32.toNatClampNeg 2) (cnM q59)) v0 2) (Int32.toNatClampNeg 2) (cnM q65)) v0 0) (Int32.toNatClampNeg 3) (cnM q73)) v0 1) (Int32.toNatClampNeg 3) (cnM q79)) v0 2) (Int32.toNatClampNeg 3) (cnM q85)) v0 0) (Int32.toNatClampNeg 4) (cnM q93)) v0 1) (Int32.toNatClampNeg 4) (cnM q99)) v0 2) (Int32.toNatClampNeg 4) (cnM q105)) v0 0) (Int32.toNatClampNeg 5) (cnM q113)) v0 1) (Int32.toNatClampNeg 5) (cnM q119)) v0 2) (Int32.toNatClampNeg 5) (cnM q125)) v0 0)) <| gd (decide ((tgM q126 (grM (srM q126 (grM (srM q120 (grM (srM q114 (grM (srM q106 (grM (srM q100 (grM (srM q94 (grM (srM q86 (grM (srM q80 (grM (srM q74 (grM (srM q66 (grM (srM q60 (grM (srM q54 (grM (srM q46 (grM (srM q40 (grM (srM q34 (grM (srM q26 (grM (srM q20 (grM (srM q14 (grM (srM q7 v0 2 (cnM q7)) v0 0) (Int32.toNatClampNeg 0) (cnM q13)) v0 1) (Int32.toNatClampNeg 0) (cnM q19)) v0 2) (Int32.toNatClampNeg 0) (cnM q25)) v0 0) (Int32.toNatClampNeg 1) (cnM q33)) v0 1) (Int32.toNatClampNeg 1) (cnM q39)) v0 2) (Int32.toNatClampNeg 1) (cnM q45)) v0 0) (Int32.toNatClampNeg 2) (cnM q53)) v0 1) (Int32.toNatClampNeg 2) (cnM q59)) v0 2) (Int32.toNatClampNeg 2) (cnM q65)) v0 0) (Int32.toNatClampNeg 3) (cnM q73)) v0 1) (Int32.toNatClampNeg 3) (cnM q79)) v0 2) (Int32.toNatClampNeg 3) (cnM q85)) v0 0) (Int32.toNatClampNeg 4) (cnM q93)) v0 1) (Int32.toNatClampNeg 4) (cnM q99)) v0 2) (Int32.toNatClampNeg 4) (cnM q105)) v0 0) (Int32.toNatClampNeg 5) (cnM q113)) v0 1) (Int32.toNatClampNeg 5) (cnM q119)) v0 2) (Int32.toNatClampNeg 5) (cnM q125)) v0 0)).2 = 7)) <| (alF (srM q126 (grM (srM q120 (grM (srM q114 (grM (srM q106 (grM (srM q100 (grM (srM q94 (grM (srM q86 (grM (srM q80 (grM (srM q74 (grM (srM q66 (grM (srM q60 (grM (srM q54 (grM (srM q46 (grM (srM q40 (grM (srM q34 (grM (srM q26 (grM (srM q20 (grM (srM q14 (grM (srM q7 v0 2 (cnM q7)) v0 0) (Int32.toNatClampNeg 0) (cnM q13)) v0 1) (Int32.toNatClampNeg 0) (cnM q19)) v0 2) (Int32.toNatClampNeg 0) (cnM q25)) v0 0) (Int32.toNatClampNeg 1) (cnM q33)) v0 1) (Int32.toNatClampNeg 1) (cnM q39)) v0 2) (Int32.toNatClampNeg 1) (cnM q45)) v0 0) (Int32.toNatClampNeg 2) (cnM q53)) v0 1) (Int32.toNatClampNeg 2) (cnM q59)) v0 2) (Int32.toNatClampNeg 2) (cnM q65)) v0 0) (Int32.toNatClampNeg 3) (cnM q73)) v0 1) (Int32.toNatClampNeg 3) (cnM q79)) v0 2) (Int32.toNatClampNeg 3) (cnM q85)) v0 0) (Int32.toNatClampNeg 4) (cnM q93)) v0 1) (Int32.toNatClampNeg 4) (cnM q99)) v0 2) (Int32.toNatClampNeg 4) (cnM q105)) v0 0) (Int32.toNatClampNeg 5) (cnM q113)) v0 1) (Int32.toNatClampNeg 5) (cnM q119)) v0 2) (Int32.toNatClampNeg 5) (cnM q125)) 1 9).bind fun q133 => (fH_init (cnM q133) v1 q133).bind fun q134 => gd (wrT 103 q134 (grM (srM q126 (grM (srM q120 (grM (srM q114 (grM (srM q106 (grM (srM q100 (grM (srM q94 (grM (srM q86 (grM (srM q80 (grM (srM q74 (grM (srM q66 (grM (srM q60 (grM (srM q54 (grM (srM q46 (grM (srM q40 (grM (srM q34 (grM (srM q26 (grM (srM q20 (grM (srM q14 (grM (srM q7 v0 2 (cnM q7)) v0 0) (Int32.toNatClampNeg 0) (cnM q13)) v0 1) (Int32.toNatClampNeg 0) (cnM q19)) v0 2) (Int32.toNatClampNeg 0) (cnM q25)) v0 0) (Int32.toNatClampNeg 1) (cnM q33)) v0 1) (Int32.toNatClampNeg 1) (cnM q39)) v0 2) (Int32.toNatClampNeg 1) (cnM q45)) v0 0) (Int32.toNatClampNeg 2) (cnM q53)) v0 1) (Int32.toNatClampNeg 2) (cnM q59)) v0 2) (Int32.toNatClampNeg 2) (cnM q65)) v0 0) (Int32.toNatClampNeg 3) (cnM q73)) v0 1) (Int32.toNatClampNeg 3) (cnM q79)) v0 2) (Int32.toNatClampNeg 3) (cnM q85)) v0 0) (Int32.toNatClampNeg 4) (cnM q93)) v0 1) (Int32.toNatClampNeg 4) (cnM q99)) v0 2) (Int32.toNatClampNeg 4) (cnM q105)) v0 0) (Int32.toNatClampNeg 5) (cnM q113)) v0 1) (Int32.toNatClampNeg 5) (cnM q119)) v0 2) (Int32.toNatClampNeg 5) (cnM q125)) v0 0) 6) <| gd (obM q134 (cnM q133) 1 9) <| gd (obM q134 v0 3 9) <| gd (decide (grM (srM q134 (grM (srM q126 (grM (srM q120 (grM (srM q114 (grM (srM q106 (grM (srM q100 (grM (srM q94 (grM (srM q86 (grM (srM q80 (grM (srM q74 (grM (srM q66 (grM (srM q60 (grM (srM q54 (grM (srM q46 (grM (srM q40 (grM (srM q34 (grM (srM q26 (grM (srM q20 (grM (srM q14 (grM (srM q7 v0 2 (cnM q7)) v0 0) (Int32.toNatClampNeg 0) (cnM q13)) v0 1) (Int32.toNatClampNeg 0) (cnM q19)) v0 2) (Int32.toNatClampNeg 0) (cnM q25)) v0 0) (Int32.toNatClampNeg 1) (cnM q33)) v0 1) (Int32.toNatClampNeg 1) (cnM q39)) v0 2) (Int32.toNatClampNeg 1) (cnM q45)) v0 0) (Int32.toNatClampNeg 2) (cnM q53)) v0 1) (Int32.toNatClampNeg 2) (cnM q59)) v0 2) (Int32.toNatClampNeg 2) (cnM q65)) v0 0) (Int32.toNatClampNeg 3) (cnM q73)) v0 1) (Int32.toNatClampNeg 3) (cnM q79)) v0 2) (Int32.toNatClampNeg 3) (cnM q85)) v0 0) (Int32.toNatClampNeg 4) (cnM q93)) v0 1) (Int32.toNatClampNeg 4) (cnM q99)) v0 2) (Int32.toNatClampNeg 4) (cnM q105)) v0 0) (Int32.toNatClampNeg 5) (cnM q113)) v0 1) (Int32.toNatClampNeg 5) (cnM q119)) v0 2) (Int32.toNatClampNeg 5) (cnM q125)) v0 0) (Int32.toNatClampNeg 6) (cnM q133)) v0 1 ≠ 0)) <| (alF (srM q134 (grM (srM q126 (grM (srM q120 (grM (srM q114 (grM (srM q106 (grM (srM q100 (grM (srM q94 (grM (srM q86 (grM (srM q80 (grM (srM q74 (grM (srM q66 (grM (srM q60 (grM (srM q54 (grM (srM q46 (grM (srM q40 (grM (srM q34 (grM (srM q26 (grM (srM q20 (grM (srM q14 (grM (srM q7 v0 2 (cnM q7)) v0 0) (Int32.toNatClampNeg 0) (cnM q13)) v0 1) (Int32.toNatClampNeg 0) (cnM q19)) v0 2) (Int32.toNatClampNeg 0) (cnM q25)) v0 0) (Int32.toNatClampNeg 1) (cnM q33)) v0 1) (Int32.toNatClampNeg 1) (cnM q39)) v0 2) (Int32.toNatClampNeg 1) (cnM q45)) v0 0) (Int32.toNatClampNeg 2) (cnM q53)) v0 1) (Int32.toNatClampNeg 2) (cnM q59)) v0 2) (Int32.toNatClampNeg 2) (cnM q65)) v0 0) (Int32.toNatClampNeg 3) (cnM q73)) v0 1) (Int32.toNatClampNeg 3) (cnM q79)) v0 2) (Int32.toNatClampNeg 3) (cnM q85)) v0 0) (Int32.toNatClampNeg 4) (cnM q93)) v0 1) (Int32.toNatClampNeg 4) (cnM q99)) v0 2) (Int32.toNatClampNeg 4) (cnM q105)) v0 0) (Int32.toNatClampNeg 5) (cnM q113)) v0 1) (Int32.toNatClampNeg 5) (cnM q119)) v0 2) (Int32.toNatClampNeg 5) (cnM q125)) v0 0) (Int32.toNatClampNeg 6) (cnM q133)) 5 5).bind fun q139 => (fG_init (cnM q139) q139).bind fun q140 => gd (wrT 105 q140 (grM (srM q134 (grM (srM q126 (grM (srM q120 (grM (srM q114 (grM (srM q106 (grM (srM q100 (grM (srM q94 (grM (srM q86 (grM (srM q80 (grM (srM q74 (grM (srM q66 (grM (srM q60 (grM (srM q54 (grM (srM q46 (grM (srM q40 (grM (srM q34 (grM (srM q26 (grM (srM q20 (grM (srM q14 (grM (srM q7 v0 2 (cnM q7)) v0 0) (Int32.toNatClampNeg 0) (cnM q13)) v0 1) (Int32.toNatClampNeg 0) (cnM q19)) v0 2) (Int32.toNatClampNeg 0) (cnM q25)) v0 0) (Int32.toNatClampNeg 1) (cnM q33)) v0 1) (Int32.toNatClampNeg 1) (cnM q39)) v0 2) (Int32.toNatClampNeg 1) (cnM q45)) v0 0) (Int32.toNatClampNeg 2) (cnM q53)) v0 1) (Int32.toNatClampNeg 2) (cnM q59)) v0 2) (Int32.toNatClampNeg 2) (cnM q65)) v0 0) (Int32.toNatClampNeg 3) (cnM q73)) v0 1) (Int32.toNatClampNeg 3) (cnM q79)) v0 2) (Int32.toNatClampNeg 3) (cnM q85)) v0 0) (Int32.toNatClampNeg 4) (cnM q93)) v0 1) (Int32.toNatClampNeg 4) (cnM q99)) v0 2) (Int32.toNatClampNeg 4) (cnM q105)) v0 0) (Int32.toNatClampNeg 5) (cnM q113)) v0 1) (Int32.toNatClampNeg 5) (cnM q119)) v0 2) (Int32.toNatClampNeg 5) (cnM q125)) v0 0) (Int32.toNatClampNeg 6) (cnM q133)) v0 1) 6) <| gd (obM q140 (cnM q139) 5 5) <| gd (obM q140 v0 3 9) <| gd (decide (grM (srM q140 (grM (srM q134 (grM (srM q126 (grM (srM q120 (grM (srM q114 (grM (srM q106 (grM (srM q100 (grM (srM q94 (grM (srM q86 (grM (srM q80 (grM (srM q74 (grM (srM q66 (grM (srM q60 (grM (srM q54 (grM (srM q46 (grM (srM q40 (grM (srM q34 (grM (srM q26 (grM (srM q20 (grM (srM q14 (grM (srM q7 v0 2 (cnM q7)) v0 0) (Int32.toNatClampNeg 0) (cnM q13)) v0 1) (Int32.toNatClampNeg 0) (cnM q19)) v0 2) (Int32.toNatClampNeg 0) (cnM q25)) v0 0) (Int32.toNatClampNeg 1) (cnM q33)) v0 1) (Int32.toNatClampNeg 1) (cnM q39)) v0 2) (Int32.toNatClampNeg 1) (cnM q45)) v0 0) (Int32.toNatClampNeg 2) (cnM q53)) v0 1) (Int32.toNatClampNeg 2) (cnM q59)) v0 2) (Int32.toNatClampNeg 2) (cnM q65)) v0 0) (Int32.toNatClampNeg 3) (cnM q73)) v0 1) (Int32.toNatClampNeg 3) (cnM q79)) v0 2) (Int32.toNatClampNeg 3) (cnM q85)) v0 0) (Int32.toNatClampNeg 4) (cnM q93)) v0 1) (Int32.toNatClampNeg 4) (cnM q99)) v0 2) (Int32.toNatClampNeg 4) (cnM q105)) v0 0) (Int32.toNatClampNeg 5) (cnM q113)) v0 1) (Int32.toNatClampNeg 5) (cnM q119)) v0 2) (Int32.toNatClampNeg 5) (cnM q125)) v0 0) (Int32.toNatClampNeg 6) (cnM q133)) v0 1) (Int32.toNatClampNeg 6) (cnM q139)) v0 2 ≠ 0)) <| (alF (srM q140 (grM (srM q134 (grM (srM q126 (grM (srM q120 (grM (srM q114 (grM (srM q106 (grM (srM q100 (grM (srM q94 (grM (srM q86 (grM (srM q80 (grM (srM q74 (grM (srM q66 (grM (srM q60 (grM (srM q54 (grM (srM q46 (grM (srM q40 (grM (srM q34 (grM (srM q26 (grM (srM q20 (grM (srM q14 (grM (srM q7 v0 2 (cnM q7)) v0 0) (Int32.toNatClampNeg 0) (cnM q13)) v0 1) (Int32.toNatClampNeg 0) (cnM q19)) v0 2) (Int32.toNatClampNeg 0) (cnM q25)) v0 0) (Int32.toNatClampNeg 1) (cnM q33)) v0 1) (Int32.toNatClampNeg 1) (cnM q39)) v0 2) (Int32.toNatClampNeg 1) (cnM q45)) v0 0) (Int32.toNatClampNeg 2) (cnM q53)) v0 1) (Int32.toNatClampNeg 2) (cnM q59)) v0 2) (Int32.toNatClampNeg 2) (cnM q65)) v0 0) (Int32.toNatClampNeg 3) (cnM q73)) v0 1) (Int32.toNatClampNeg 3) (cnM q79)) v0 2) (Int32.toNatClampNeg 3) (cnM q85)) v0 0) (Int32.toNatClampNeg 4) (cnM q93)) v0 1) (Int32.toNatClampNeg 4) (cnM q99)) v0 2) (Int32.toNatClampNeg 4) (cnM q105)) v0 0) (Int32.toNatClampNeg 5) (cnM q113)) v0 1) (Int32.toNatClampNeg 5) (cnM q119)) v0 2) (Int32.toNatClampNeg 5) (cnM q125)) v0 0) (Int32.toNatClampNeg 6) (cnM q133)) v0 1) (Int32.toNatClampNeg 6) (cnM q139)) 5 5).bind fun q145 => (fG_init (cnM q145) q145).bind fun q146 => gd (wrT 105 q146 (grM (srM q140 (grM (srM q134 (grM (srM q126 (grM (srM q120 (grM (srM q114 (grM (srM q106 (grM (srM q100 (grM (srM q94 (grM (srM q86 (grM (srM q80 (grM (srM q74 (grM (srM q66 (grM (srM q60 (grM (srM q54 (grM (srM q46 (grM (srM q40 (grM (srM q34 (grM (srM q26 (grM (srM q20 (grM (srM q14 (grM (srM q7 v0 2 (cnM q7)) v0 0) (Int32.toNatClampNeg 0) (cnM q13)) v0 1) (Int32.toNatClampNeg 0) (cnM q19)) v0 2) (Int32.toNatClampNeg 0) (cnM q25)) v0 0) (Int32.toNatClampNeg 1) (cnM q33)) v0 1) (Int32.toNatClampNeg 1) (cnM q39)) v0 2) (Int32.toNatClampNeg 1) (cnM q45)) v0 0) (Int32.toNatClampNeg 2) (cnM q53)) v0 1) (Int32.toNatClampNeg 2) (cnM q59)) v0 2) (Int32.toNatClampNeg 2) (cnM q65)) v0 0) (Int32.toNatClampNeg 3) (cnM q73)) v0 1) (Int32.toNatClampNeg 3) (cnM q79)) v0 2) (Int32.toNatClampNeg 3) (cnM q85)) v0 0) (Int32.toNatClampNeg 4) (cnM q93)) v0 1) (Int32.toNatClampNeg 4) (cnM q99)) v0 2) (Int32.toNatClampNeg 4) (cnM q105)) v0 0) (Int32.toNatClampNeg 5) (cnM q113)) v0 1) (Int32.toNatClampNeg 5) (cnM q119)) v0 2) (Int32.toNatClampNeg 5) (cnM q125)) v0 0) (Int32.toNatClampNeg 6) (cnM q133)) v0 1) (Int32.toNatClampNeg 6) (cnM q139)) v0 2) 6) <| gd (obM q146 (cnM q145) 5 5) <| gd (obM q146 v0 3 9) <| gd (decide (grM (srM q146 (grM (srM q140 (grM (srM q134 (grM (srM q126 (grM (srM q120 (grM (srM q114 (grM (srM q106 (grM (srM q100 (grM (srM q94 (grM (srM q86 (grM (srM q80 (grM (srM q74 (grM (srM q66 (grM (srM q60 (grM (srM q54 (grM (srM q46 (grM (srM q40 (grM (srM q34 (grM (srM q26 (grM (srM q20 (grM (srM q14 (grM (srM q7 v0 2 (cnM q7)) v0 0) (Int32.toNatClampNeg 0) (cnM q13)) v0 1) (Int32.toNatClampNeg 0) (cnM q19)) v0 2) (Int32.toNatClampNeg 0) (cnM q25)) v0 0) (Int32.toNatClampNeg 1) (cnM q33)) v0 1) (Int32.toNatClampNeg 1) (cnM q39)) v0 2) (Int32.toNatClampNeg 1) (cnM q45)) v0 0) (Int32.toNatClampNeg 2) (cnM q53)) v0 1) (Int32.toNatClampNeg 2) (cnM q59)) v0 2) (Int32.toNatClampNeg 2) (cnM q65)) v0 0) (Int32.toNatClampNeg 3) (cnM q73)) v0 1) (Int32.toNatClampNeg 3) (cnM q79)) v0 2) (Int32.toNatClampNeg 3) (cnM q85)) v0 0) (Int32.toNatClampNeg 4) (cnM q93)) v0 1) (Int32.toNatClampNeg 4) (cnM q99)) v0 2) (Int32.toNatClampNeg 4) (cnM q105)) v0 0) (Int32.toNatClampNeg 5) (cnM q113)) v0 1) (Int32.toNatClampNeg 5) (cnM q119)) v0 2) (Int32.toNatClampNeg 5) (cnM q125)) v0 0) (Int32.toNatClampNeg 6) (cnM q133)) v0 1) (Int32.toNatClampNeg 6) (cnM q139)) v0 2) (Int32.toNatClampNeg 6) (cnM q145)) v0 0 ≠ 0)) <| gd (lnT 103 q146 (grM (srM q146 (grM (srM q140 (grM (srM q134 (grM (srM q126 (grM (srM q120 (grM (srM q114 (grM (srM q106 (grM (srM q100 (grM (srM q94 (grM (srM q86 (grM (srM q80 (grM (srM q74 (grM (srM q66 (grM (srM q60 (grM (srM q54 (grM (srM q46 (grM (srM q40 (grM (srM q34 (grM (srM q26 (grM (srM q20 (grM (srM q14 (grM (srM q7 v0 2 (cnM q7)) v0 0) (Int32.toNatClampNeg 0) (cnM q13)) v0 1) (Int32.toNatClampNeg 0) (cnM q19)) v0 2) (Int32.toNatClampNeg 0) (cnM q25)) v0 0) (Int32.toNatClampNeg 1) (cnM q33)) v0 1) (Int32.toNatClampNeg 1) (cnM q39)) v0 2) (Int32.toNatClampNeg 1) (cnM q45)) v0 0) (Int32.toNatClampNeg 2) (cnM q53)) v0 1) (Int32.toNatClampNeg 2) (cnM q59)) v0 2) (Int32.toNatClampNeg 2) (cnM q65)) v0 0) (Int32.toNatClampNeg 3) (cnM q73)) v0 1) (Int32.toNatClampNeg 3) (cnM q79)) v0 2) (Int32.toNatClampNeg 3) (cnM q85)) v0 0) (Int32.toNatClampNeg 4) (cnM q93)) v0 1) (Int32.toNatClampNeg 4) (cnM q99)) v0 2) (Int32.toNatClampNeg 4) (cnM q105)) v0 0) (Int32.toNatClampNeg 5) (cnM q113)) v0 1) (Int32.toNatClampNeg 5) (cnM q119)) v0 2) (Int32.toNatClampNeg 5) (cnM q125)) v0 0) (Int32.toNatClampNeg 6) (cnM q133)) v0 1) (Int32.toNatClampNeg 6) (cnM q139)) v0 2) (Int32.toNatClampNeg 6) (cnM q145)) v0 0)) <| gd (decide ((tgM q146 (grM (srM q146 (grM (srM q140 (grM (srM q134 (grM (srM q126 (grM (srM q120 (grM (srM q114 (grM (srM q106 (grM (srM q100 (grM (srM q94 (grM (srM q86 (grM (srM q80 (grM (srM q74 (grM (srM q66 (grM (srM q60 (grM (srM q54 (grM (srM q46 (grM (srM q40 (grM (srM q34 (grM (srM q26 (grM (srM q20 (grM (srM q14 (grM (srM q7 v0 2 (cnM q7)) v0 0) (Int32.toNatClampNeg 0) (cnM q13)) v0 1) (Int32.toNatClampNeg 0) (cnM q19)) v0 2) (Int32.toNatClampNeg 0) (cnM q25)) v0 0) (Int32.toNatClampNeg 1) (cnM q33)) v0 1) (Int32.toNatClampNeg 1) (cnM q39)) v0 2) (Int32.toNatClampNeg 1) (cnM q45)) v0 0) (Int32.toNatClampNeg 2) (cnM q53)) v0 1) (Int32.toNatClampNeg 2) (cnM q59)) v0 2) (Int32.toNatClampNeg 2) (cnM q65)) v0 0) (Int32.toNatClampNeg 3) (cnM q73)) v0 1) (Int32.toNatClampNeg 3) (cnM q79)) v0 2) (Int32.toNatClampNeg 3) (cnM q85)) v0 0) (Int32.toNatClampNeg 4) (cnM q93)) v0 1) (Int32.toNatClampNeg 4) (cnM q99)) v0 2) (Int32.toNatClampNeg 4) (cnM q105)) v0 0) (Int32.toNatClampNeg 5) (cnM q113)) v0 1) (Int32.toNatClampNeg 5) (cnM q119)) v0 2) (Int32.toNatClampNeg 5) (cnM q125)) v0 0) (Int32.toNatClampNeg 6) (cnM q133)) v0 1) (Int32.toNatClampNeg 6) (cnM q139)) v0 2) (Int32.toNatClampNeg 6) (cnM q145)) v0 0)).2 = 7)) <| (alF (srM q146 (grM (srM q140 (grM (srM q134 (grM (srM q126 (grM (srM q120 (grM (srM q114 (grM (srM q106 (grM (srM q100 (grM (srM q94 (grM (srM q86 (grM (srM q80 (grM (srM q74 (grM (srM q66 (grM (srM q60 (grM (srM q54 (grM (srM q46 (grM (srM q40 (grM (srM q34 (grM (srM q26 (grM (srM q20 (grM (srM q14 (grM (srM q7 v0 2 (cnM q7)) v0 0) (Int32.toNatClampNeg 0) (cnM q13)) v0 1) (Int32.toNatClampNeg 0) (cnM q19)) v0 2) (Int32.toNatClampNeg 0) (cnM q25)) v0 0) (Int32.toNatClampNeg 1) (cnM q33)) v0 1) (Int32.toNatClampNeg 1) (cnM q39)) v0 2) (Int32.toNatClampNeg 1) (cnM q45)) v0 0) (Int32.toNatClampNeg 2) (cnM q53)) v0 1) (Int32.toNatClampNeg 2) (cnM q59)) v0 2) (Int32.toNatClampNeg 2) (cnM q65)) v0 0) (Int32.toNatClampNeg 3) (cnM q73)) v0 1) (Int32.toNatClampNeg 3) (cnM q79)) v0 2) (Int32.toNatClampNeg 3) (cnM q85)) v0 0) (Int32.toNatClampNeg 4) (cnM q93)) v0 1) (Int32.toNatClampNeg 4) (cnM q99)) v0 2) (Int32.toNatClampNeg 4) (cnM q105)) v0 0) (Int32.toNatClampNeg 5) (cnM q113)) v0 1) (Int32.toNatClampNeg 5) (cnM q119)) v0 2) (Int32.toNatClampNeg 5) (cnM q125)) v0 0) (Int32.toNatClampNeg 6) (cnM q133)) v0 1) (Int32.toNatClampNeg 6) (cnM q139)) v0 2) (Int32.toNatClampNeg 6) (cnM q145)) 8 4).bind fun q153 => (fS_init (cnM q153) q153).bind fun q154 => gd (obM q154 v0 3 9) <| gd (decide ((cnM q153) ≠ 0)) <| gd (decide (grM (srM q154 v0 3 (cnM q153)) v0 3 ≠ 0)) <| some (srM (srM q154 v0 3 (cnM q153)) v0 4 (grM (srM q154 v0 3 (cnM q153)) v0 3))
set_option maxRecDepth 100000 in
def fA_init (v0 : Nat) (M : Mem) : Option (Mem) :=
  (alF M 9 2).bind fun q1 => (fT_init (cnM q1) q1).bind fun q2 => gd (obM q2 v0 10 15) <| gd (decide ((cnM q1) ≠ 0)) <| (alF (srM q2 v0 0 (cnM q1)) 6 3).bind fun q5 => gd (obM q5 v0 10 15) <| gd (decide (grM q5 v0 0 ≠ 0)) <| (fR_init (cnM q5) (grM q5 v0 0) q5).bind fun q8 => gd (obM q8 v0 10 15) <| gd (decide ((cnM q5) ≠ 0)) <| (alF (srM q8 v0 1 (cnM q5)) 7 3).bind fun q11 => (fU_init (cnM q11) q11).bind fun q12 => gd (obM q12 v0 10 15) <| gd (decide ((cnM q11) ≠ 0)) <| (alF (srM q12 v0 2 (cnM q11)) 7 3).bind fun q15 => (fU_init (cnM q15) q15).bind fun q16 => gd (obM q16 v0 10 15) <| gd (decide ((cnM q15) ≠ 0)) <| (alF (srM q16 v0 3 (cnM q15)) 104 (Int32.toNatClampNeg 4)).bind fun q19 => gd (obM q19 v0 10 15) <| gd (decide ((cnM q19) ≠ 0)) <| gd (decide (grM (srM q19 v0 4 (cnM q19)) v0 4 ≠ 0)) <| (alF (srM q19 v0 4 (cnM q19)) 8 4).bind fun q23 => (fS_init (cnM q23) q23).bind fun q24 => gd (wrT 104 q24 (grM (srM q19 v0 4 (cnM q19)) v0 4) 0) <| gd (obM q24 (cnM q23) 8 4) <| gd (obM q24 v0 10 15) <| gd (decide (grM (srM q24 (grM (srM q19 v0 4 (cnM q19)) v0 4) (Int32.toNatClampNeg 0) (cnM q23)) v0 4 ≠ 0)) <| (alF (srM q24 (grM (srM q19 v0 4 (cnM q19)) v0 4) (Int32.toNatClampNeg 0) (cnM q23)) 8 4).bind fun q29 => (fS_init (cnM q29) q29).bind fun q30 => gd (wrT 104 q30 (grM (srM q24 (grM (srM q19 v0 4 (cnM q19)) v0 4) (Int32.toNatClampNeg 0) (cnM q23)) v0 4) 1) <| gd (obM q30 (cnM q29) 8 4) <| gd (obM q30 v0 10 15) <| gd (decide (grM (srM q30 (grM (srM q24 (grM (srM q19 v0 4 (cnM q19)) v0 4) (Int32.toNatClampNeg 0) (cnM q23)) v0 4) (Int32.toNatClampNeg 1) (cnM q29)) v0 4 ≠ 0)) <| (alF (srM q30 (grM (srM q24 (grM (srM q19 v0 4 (cnM q19)) v0 4) (Int32.toNatClampNeg 0) (cnM q23)) v0 4) (Int32.toNatClampNeg 1) (cnM q29)) 8 4).bind fun q35 => (fS_init (cnM q35) q35).bind fun q36 => gd (wrT 104 q36 (grM (srM q30 (grM (srM q24 (grM (srM q19 v0 4 (cnM q19)) v0 4) (Int32.toNatClampNeg 0) (cnM q23)) v0 4) (Int32.toNatClampNeg 1) (cnM q29)) v0 4) 2) <| gd (obM q36 (cnM q35) 8 4) <| gd (obM q36 v0 10 15) <| gd (decide (grM (srM q36 (grM (srM q30 (grM (srM q24 (grM (srM q19 v0 4 (cnM q19)) v0 4) (Int32.toNatClampNeg 0) (cnM q23)) v0 4) (Int32.toNatClampNeg 1) (cnM q29)) v0 4) (Int32.toNatClampNeg 2) (cnM q35)) v0 4 ≠ 0)) <| (alF (srM q36 (grM (srM q30 (grM (srM q24 (grM (srM q19 v0 4 (cnM q19)) v0 4) (Int32.toNatClampNeg 0) (cnM q23)) v0 4) (Int32.toNatClampNeg 1) (cnM q29)) v0 4) (Int32.toNatClampNeg 2) (cnM q35)) 8 4).bind fun q41 => (fS_init (cnM q41) q41).bind fun q42 => gd (wrT 104 q42 (grM (srM q36 (grM (srM q30 (grM (srM q24 (grM (srM q19 v0 4 (cnM q19)) v0 4) (Int32.toNatClampNeg 0) (cnM q23)) v0 4) (Int32.toNatClampNeg 1) (cnM q29)) v0 4) (Int32.toNatClampNeg 2) (cnM q35)) v0 4) 3) <| gd (obM q42 (cnM q41) 8 4) <| gd (obM q42 v0 10 15) <| (alF (siM (srM q42 (grM (srM q36 (grM (srM q30 (grM (srM q24 (grM (srM q19 v0 4 (cnM q19)) v0 4) (Int32.toNatClampNeg 0) (cnM q23)) v0 4) (Int32.toNatClampNeg 1) (cnM q29)) v0 4) (Int32.toNatClampNeg 2) (cnM q35)) v0 4) (Int32.toNatClampNeg 3) (cnM q41)) v0 5 0) 8 4).bind fun q46 => (fS_init (cnM q46) q46).bind fun q47 => gd (obM q47 v0 10 15) <| gd (decide ((cnM q46) ≠ 0)) <| (alF (srM q47 v0 6 (cnM q46)) 1 9).bind fun q50 => gd (obM q50 v0 10 15) <| gd (decide (grM q50 v0 2 ≠ 0)) <| (fH_init (cnM q50) (grM q50 v0 2) q50).bind fun q53 => gd (obM q53 v0 10 15) <| gd (decide ((cnM q50) ≠ 0)) <| (alF (srM q53 v0 7 (cnM q50)) 4 3).bind fun q56 => gd (obM q56 v0 10 15) <| gd (decide (grM q56 v0 2 ≠ 0)) <| (fP_init (cnM q56) (grM q56 v0 2) q56).bind fun q59 => gd (obM q59 v0 10 15) <| gd (decide ((cnM q56) ≠ 0)) <| (alF (srM q59 v0 8 (cnM q56)) 1 9).bind fun q62 => gd (obM q62 v0 10 15) <| gd (decide (grM q62 v0 2 ≠ 0)) <| (fH_init (cnM q62) (grM q62 v0 2) q62).bind fun q65 => gd (obM q65 v0 10 15) <| gd (decide ((cnM q62) ≠ 0)) <| (alF (siM (srM q65 v0 9 (cnM q62)) v0 10 0) 100 (Int32.toNatClampNeg 4)).bind fun q68 => gd (obM q68 v0 10 15) <| gd (decide ((cnM q68) ≠ 0)) <| (alF (srM q68 v0 11 (cnM q68)) 3 9).bind fun q71 => gd (obM q71 v0 10 15) <| gd (decide (grM q71 v0 2 ≠ 0)) <| (fX_init (cnM q71) (grM q71 v0 2) q71).bind fun q74 => gd (obM q74 v0 10 15) <| gd (decide ((cnM q71) ≠ 0)) <| (alF (srM q74 v0 12 (cnM q71)) 1 9).bind fun q77 => gd (obM q77 v0 10 15) <| gd (decide (grM q77 v0 2 ≠ 0)) <| (fH_init (cnM q77) (grM q77 v0 2) q77).bind fun q80 => gd (obM q80 v0 10 15) <| gd (decide ((cnM q77) ≠ 0)) <| (alF (srM q80 v0 13 (cnM q77)) 5 5).bind fun q83 => (fG_init (cnM q83) q83).bind fun q84 => gd (obM q84 v0 10 15) <| gd (decide ((cnM q83) ≠ 0)) <| some (srM q84 v0 14 (cnM q83))
set_option maxRecDepth 100000 in
def fM_init (v0 : Nat) (M : Mem) : Option (Mem) :=
  (alF M 100 (Int32.toNatClampNeg 240)).bind fun q1 => gd (obM q1 v0 11 34) <| gd (decide ((cnM q1) ≠ 0)) <| (alF (srM q1 v0 1 (cnM q1)) 100 (Int32.toNatClampNeg 5)).bind fun q4 => gd (obM q4 v0 11 34) <| gd (decide ((cnM q4) ≠ 0)) <| (alF (srM q4 v0 5 (cnM q4)) 100 (Int32.toNatClampNeg 6)).bind fun q7 => gd (obM q7 v0 11 34) <| gd (decide ((cnM q7) ≠ 0)) <| (alF (srM q7 v0 6 (cnM q7)) 100 (Int32.toNatClampNeg 5)).bind fun q10 => gd (obM q10 v0 11 34) <| gd (decide ((cnM q10) ≠ 0)) <| (alF (srM q10 v0 8 (cnM q10)) 100 (Int32.toNatClampNeg 6)).bind fun q13 => gd (obM q13 v0 11 34) <| gd (decide ((cnM q13) ≠ 0)) <| (alF (srM q13 v0 9 (cnM q13)) 100 (Int32.toNatClampNeg 360)).bind fun q16 => gd (obM q16 v0 11 34) <| gd (decide ((cnM q16) ≠ 0)) <| (alF (srM q16 v0 11 (cnM q16)) 100 (Int32.toNatClampNeg 5)).bind fun q19 => gd (obM q19 v0 11 34) <| gd (decide ((cnM q19) ≠ 0)) <| (alF (srM q19 v0 12 (cnM q19)) 100 (Int32.toNatClampNeg 3893)).bind fun q22 => gd (obM q22 v0 11 34) <| gd (decide ((cnM q22) ≠ 0)) <| (alF (srM q22 v0 15 (cnM q22)) 100 (Int32.toNatClampNeg 4)).bind fun q25 => gd (obM q25 v0 11 34) <| gd (decide ((cnM q25) ≠ 0)) <| (alF (srM q25 v0 16 (cnM q25)) 100 (Int32.toNatClampNeg 48)).bind fun q28 => gd (obM q28 v0 11 34) <| gd (decide ((cnM q28) ≠ 0)) <| (alF (srM q28 v0 18 (cnM q28)) 100 (Int32.toNatClampNeg 48)).bind fun q31 => gd (obM q31 v0 11 34) <| gd (decide ((cnM q31) ≠ 0)) <| (alF (srM q31 v0 19 (cnM q31)) 100 (Int32.toNatClampNeg 48)).bind fun q34 => gd (obM q34 v0 11 34) <| gd (decide ((cnM q34) ≠ 0)) <| (alF (srM q34 v0 20 (cnM q34)) 101 (Int32.toNatClampNeg 48)).bind fun q37 => gd (obM q37 v0 11 34) <| gd (decide ((cnM q37) ≠ 0)) <| (alF (srM q37 v0 21 (cnM q37)) 100 (Int32.toNatClampNeg 2)).bind fun q40 => gd (obM q40 v0 11 34) <| gd (decide ((cnM q40) ≠ 0)) <| (alF (srM q40 v0 22 (cnM q40)) 100 (Int32.toNatClampNeg 155720)).bind fun q43 => gd (obM q43 v0 11 34) <| gd (decide ((cnM q43) ≠ 0)) <| (alF (srM q43 v0 24 (cnM q43)) 100 (Int32.toNatClampNeg 48256)).bind fun q46 => gd (obM q46 v0 11 34) <| gd (decide ((cnM q46) ≠ 0)) <| (alF (srM q46 v0 27 (cnM q46)) 100 (Int32.toNatClampNeg 3893)).bind fun q49 => gd (obM q49 v0 11 34) <| gd (decide ((cnM q49) ≠ 0)) <| some (srM q49 v0 32 (cnM q49))
theorem ddT_init_0 : decode cT_init 0 = .ok (.aload_n 0, 1) := by decide +kernel
theorem ddT_init_1 : decode cT_init 1 = .ok (.invokespecial 3, 3) := by decide +kernel
theorem ddT_init_4 : decode cT_init 4 = .ok (.aload_n 0, 1) := by decide +kernel
theorem ddT_init_5 : decode cT_init 5 = .ok (.sipush 240, 3) := by decide +kernel
theorem ddT_init_8 : decode cT_init 8 = .ok (.newarray .int, 2) := by decide +kernel
theorem ddT_init_10 : decode cT_init 10 = .ok (.putfield 9, 3) := by decide +kernel
theorem ddT_init_13 : decode cT_init 13 = .ok (.aload_n 0, 1) := by decide +kernel
theorem ddT_init_14 : decode cT_init 14 = .ok (.iconst 0, 1) := by decide +kernel
theorem ddT_init_15 : decode cT_init 15 = .ok (.putfield 15, 3) := by decide +kernel
theorem ddT_init_18 : decode cT_init 18 = .ok (.return_, 1) := by decide +kernel
set_option maxHeartbeats 8000000 in
set_option maxRecDepth 100000 in
theorem xT_init {G : GXM} {l : Launch} (hG : GokM G) (hg : G.2.2.2.2 = true) (d : Nat) (hd : 1 ≤ d) {v0 : Nat} {M : Mem} {q : Mem} (h : fT_init v0 M = some q) : ExM G l d 1 (240) yT_init cT_init 1 none [.ref v0] M none q := by
  refine ex_of hG (by decide +kernel) (Nat.le_of_ble_eq_true rfl) ?_
  intro X hl C E N hD hn
  have hR := EnM_R E
  show ZM G X 0 [(0, .ref v0)] [] M 0 0
  unfold fT_init at h
  refine zz_aload_n C 0 ddT_init_0 rfl rfl ?_
  refine zz_objInit C ddT_init_1 wd_38 ⟨wd_31, wd_32⟩ (by omega) (Nat.le_of_ble_eq_true rfl) ?_
  refine zz_aload_n C 0 ddT_init_4 rfl rfl ?_
  refine zz_sipush (v := 240) C ddT_init_5 (by decide) ?_
  obtain ⟨q1, hq1, h⟩ := bindN h
  refine zz_newI C ddT_init_8 wd_49 hg (by decide) (by decide) hq1 ⟨by rw [hR]; exact Nat.le_of_ble_eq_true rfl, by rw [hR]; exact Nat.le_of_ble_eq_true rfl⟩ ?_
  refine zz_kn (k1 := 1) (n1 := 240) (by decide) (by decide) ?_
  obtain ⟨h2, h⟩ := gdN h
  obtain ⟨h3, h⟩ := gdN h
  refine zz_putr C ddT_init_10 fl_T_9 (Or.inr ⟨hn, _, rfl, rfl⟩) rfl (fun _ => rfl) (fun _ => rfl) h2 (of_decide_eq_true h3) ?_
  refine zz_aload_n C 0 ddT_init_13 rfl rfl ?_
  refine zz_iconst (v := 0) C ddT_init_14 (by decide) ?_
  refine zz_puti C ddT_init_15 fl_T_15 rfl rfl rfl h2 ?_
  obtain rfl := Option.some.inj h
  exact zz_vret C E ddT_init_18
theorem ddR_init_0 : decode cR_init 0 = .ok (.aload_n 0, 1) := by decide +kernel
theorem ddR_init_1 : decode cR_init 1 = .ok (.invokespecial 3, 3) := by decide +kernel
theorem ddR_init_4 : decode cR_init 4 = .ok (.aload_n 0, 1) := by decide +kernel
theorem ddR_init_5 : decode cR_init 5 = .ok (.aload_n 1, 1) := by decide +kernel
theorem ddR_init_6 : decode cR_init 6 = .ok (.putfield 9, 3) := by decide +kernel
theorem ddR_init_9 : decode cR_init 9 = .ok (.aload_n 0, 1) := by decide +kernel
theorem ddR_init_10 : decode cR_init 10 = .ok (.iconst 0, 1) := by decide +kernel
theorem ddR_init_11 : decode cR_init 11 = .ok (.putfield 15, 3) := by decide +kernel
theorem ddR_init_14 : decode cR_init 14 = .ok (.aload_n 0, 1) := by decide +kernel
theorem ddR_init_15 : decode cR_init 15 = .ok (.iconst (-1), 1) := by decide +kernel
theorem ddR_init_16 : decode cR_init 16 = .ok (.putfield 19, 3) := by decide +kernel
theorem ddR_init_19 : decode cR_init 19 = .ok (.return_, 1) := by decide +kernel
set_option maxHeartbeats 8000000 in
set_option maxRecDepth 100000 in
theorem xR_init {G : GXM} {l : Launch} (hG : GokM G) (hg : G.2.2.2.2 = true) (d : Nat) (hd : 1 ≤ d) {v0 : Nat} {v1 : Nat} {M : Mem} {q : Mem} (h : fR_init v0 v1 M = some q) : ExM G l d 0 (0) yR_init cR_init 2 none [.ref v0, .ref v1] M none q := by
  refine ex_of hG (by decide +kernel) (Nat.le_of_ble_eq_true rfl) ?_
  intro X hl C E N hD hn
  have hR := EnM_R E
  show ZM G X 0 [(0, .ref v0), (1, .ref v1)] [] M 0 0
  unfold fR_init at h
  refine zz_aload_n C 0 ddR_init_0 rfl rfl ?_
  refine zz_objInit C ddR_init_1 wd_55 ⟨wd_31, wd_32⟩ (by omega) (Nat.le_of_ble_eq_true rfl) ?_
  refine zz_aload_n C 0 ddR_init_4 rfl rfl ?_
  refine zz_aload_n C 1 ddR_init_5 rfl rfl ?_
  obtain ⟨h1, h⟩ := gdN h
  obtain ⟨h2, h⟩ := gdN h
  refine zz_putr C ddR_init_6 fl_R_9 (Or.inr ⟨hn, _, rfl, rfl⟩) rfl (fun _ => rfl) (fun _ => rfl) h1 (of_decide_eq_true h2) ?_
  refine zz_aload_n C 0 ddR_init_9 rfl rfl ?_
  refine zz_iconst (v := 0) C ddR_init_10 (by decide) ?_
  refine zz_puti C ddR_init_11 fl_R_15 rfl rfl rfl h1 ?_
  refine zz_aload_n C 0 ddR_init_14 rfl rfl ?_
  refine zz_iconst (v := (-1)) C ddR_init_15 (by decide) ?_
  refine zz_puti C ddR_init_16 fl_R_19 rfl rfl rfl h1 ?_
  obtain rfl := Option.some.inj h
  exact zz_vret C E ddR_init_19
theorem ddU_init_0 : decode cU_init 0 = .ok (.aload_n 0, 1) := by decide +kernel
theorem ddU_init_1 : decode cU_init 1 = .ok (.invokespecial 3, 3) := by decide +kernel
theorem ddU_init_4 : decode cU_init 4 = .ok (.aload_n 0, 1) := by decide +kernel
theorem ddU_init_5 : decode cU_init 5 = .ok (.iconst 5, 1) := by decide +kernel
theorem ddU_init_6 : decode cU_init 6 = .ok (.newarray .int, 2) := by decide +kernel
theorem ddU_init_8 : decode cU_init 8 = .ok (.putfield 9, 3) := by decide +kernel
theorem ddU_init_11 : decode cU_init 11 = .ok (.aload_n 0, 1) := by decide +kernel
theorem ddU_init_12 : decode cU_init 12 = .ok (.bipush 6, 2) := by decide +kernel
theorem ddU_init_14 : decode cU_init 14 = .ok (.newarray .int, 2) := by decide +kernel
theorem ddU_init_16 : decode cU_init 16 = .ok (.putfield 15, 3) := by decide +kernel
theorem ddU_init_19 : decode cU_init 19 = .ok (.aload_n 0, 1) := by decide +kernel
theorem ddU_init_20 : decode cU_init 20 = .ok (.iconst 0, 1) := by decide +kernel
theorem ddU_init_21 : decode cU_init 21 = .ok (.putfield 18, 3) := by decide +kernel
theorem ddU_init_24 : decode cU_init 24 = .ok (.return_, 1) := by decide +kernel
set_option maxHeartbeats 8000000 in
set_option maxRecDepth 100000 in
theorem xU_init {G : GXM} {l : Launch} (hG : GokM G) (hg : G.2.2.2.2 = true) (d : Nat) (hd : 1 ≤ d) {v0 : Nat} {M : Mem} {q : Mem} (h : fU_init v0 M = some q) : ExM G l d 2 (11) yU_init cU_init 1 none [.ref v0] M none q := by
  refine ex_of hG (by decide +kernel) (Nat.le_of_ble_eq_true rfl) ?_
  intro X hl C E N hD hn
  have hR := EnM_R E
  show ZM G X 0 [(0, .ref v0)] [] M 0 0
  unfold fU_init at h
  refine zz_aload_n C 0 ddU_init_0 rfl rfl ?_
  refine zz_objInit C ddU_init_1 wd_73 ⟨wd_31, wd_32⟩ (by omega) (Nat.le_of_ble_eq_true rfl) ?_
  refine zz_aload_n C 0 ddU_init_4 rfl rfl ?_
  refine zz_iconst (v := 5) C ddU_init_5 (by decide) ?_
  obtain ⟨q1, hq1, h⟩ := bindN h
  refine zz_newI C ddU_init_6 wd_49 hg (by decide) (by decide) hq1 ⟨by rw [hR]; exact Nat.le_of_ble_eq_true rfl, by rw [hR]; exact Nat.le_of_ble_eq_true rfl⟩ ?_
  refine zz_kn (k1 := 1) (n1 := 5) (by decide) (by decide) ?_
  obtain ⟨h2, h⟩ := gdN h
  obtain ⟨h3, h⟩ := gdN h
  refine zz_putr C ddU_init_8 fl_U_9 (Or.inr ⟨hn, _, rfl, rfl⟩) rfl (fun _ => rfl) (fun _ => rfl) h2 (of_decide_eq_true h3) ?_
  refine zz_aload_n C 0 ddU_init_11 rfl rfl ?_
  refine zz_bipush (v := 6) C ddU_init_12 (by decide) ?_
  obtain ⟨q4, hq4, h⟩ := bindN h
  refine zz_newI C ddU_init_14 wd_49 hg (by decide) (by decide) hq4 ⟨by rw [hR]; exact Nat.le_of_ble_eq_true rfl, by rw [hR]; exact Nat.le_of_ble_eq_true rfl⟩ ?_
  refine zz_kn (k1 := 2) (n1 := 11) (by decide) (by decide) ?_
  obtain ⟨h5, h⟩ := gdN h
  obtain ⟨h6, h⟩ := gdN h
  refine zz_putr C ddU_init_16 fl_U_15 (Or.inr ⟨hn, _, rfl, rfl⟩) rfl (fun _ => rfl) (fun _ => rfl) h5 (of_decide_eq_true h6) ?_
  refine zz_aload_n C 0 ddU_init_19 rfl rfl ?_
  refine zz_iconst (v := 0) C ddU_init_20 (by decide) ?_
  refine zz_puti C ddU_init_21 fl_U_18 rfl rfl rfl h5 ?_
  obtain rfl := Option.some.inj h
  exact zz_vret C E ddU_init_24
theorem ddS_init_0 : decode cS_init 0 = .ok (.aload_n 0, 1) := by decide +kernel
theorem ddS_init_1 : decode cS_init 1 = .ok (.invokespecial 3, 3) := by decide +kernel
theorem ddS_init_4 : decode cS_init 4 = .ok (.aload_n 0, 1) := by decide +kernel
theorem ddS_init_5 : decode cS_init 5 = .ok (.bipush 24, 2) := by decide +kernel
theorem ddS_init_7 : decode cS_init 7 = .ok (.newarray .int, 2) := by decide +kernel
theorem ddS_init_9 : decode cS_init 9 = .ok (.putfield 9, 3) := by decide +kernel
theorem ddS_init_12 : decode cS_init 12 = .ok (.aload_n 0, 1) := by decide +kernel
theorem ddS_init_13 : decode cS_init 13 = .ok (.bipush 24, 2) := by decide +kernel
theorem ddS_init_15 : decode cS_init 15 = .ok (.newarray .int, 2) := by decide +kernel
theorem ddS_init_17 : decode cS_init 17 = .ok (.putfield 15, 3) := by decide +kernel
theorem ddS_init_20 : decode cS_init 20 = .ok (.aload_n 0, 1) := by decide +kernel
theorem ddS_init_21 : decode cS_init 21 = .ok (.bipush 24, 2) := by decide +kernel
theorem ddS_init_23 : decode cS_init 23 = .ok (.newarray .int, 2) := by decide +kernel
theorem ddS_init_25 : decode cS_init 25 = .ok (.putfield 18, 3) := by decide +kernel
theorem ddS_init_28 : decode cS_init 28 = .ok (.aload_n 0, 1) := by decide +kernel
theorem ddS_init_29 : decode cS_init 29 = .ok (.iconst 0, 1) := by decide +kernel
theorem ddS_init_30 : decode cS_init 30 = .ok (.putfield 21, 3) := by decide +kernel
theorem ddS_init_33 : decode cS_init 33 = .ok (.return_, 1) := by decide +kernel
set_option maxHeartbeats 8000000 in
set_option maxRecDepth 100000 in
theorem xS_init {G : GXM} {l : Launch} (hG : GokM G) (hg : G.2.2.2.2 = true) (d : Nat) (hd : 1 ≤ d) {v0 : Nat} {M : Mem} {q : Mem} (h : fS_init v0 M = some q) : ExM G l d 3 (72) yS_init cS_init 1 none [.ref v0] M none q := by
  refine ex_of hG (by decide +kernel) (Nat.le_of_ble_eq_true rfl) ?_
  intro X hl C E N hD hn
  have hR := EnM_R E
  show ZM G X 0 [(0, .ref v0)] [] M 0 0
  unfold fS_init at h
  refine zz_aload_n C 0 ddS_init_0 rfl rfl ?_
  refine zz_objInit C ddS_init_1 wd_95 ⟨wd_31, wd_32⟩ (by omega) (Nat.le_of_ble_eq_true rfl) ?_
  refine zz_aload_n C 0 ddS_init_4 rfl rfl ?_
  refine zz_bipush (v := 24) C ddS_init_5 (by decide) ?_
  obtain ⟨q1, hq1, h⟩ := bindN h
  refine zz_newI C ddS_init_7 wd_49 hg (by decide) (by decide) hq1 ⟨by rw [hR]; exact Nat.le_of_ble_eq_true rfl, by rw [hR]; exact Nat.le_of_ble_eq_true rfl⟩ ?_
  refine zz_kn (k1 := 1) (n1 := 24) (by decide) (by decide) ?_
  obtain ⟨h2, h⟩ := gdN h
  obtain ⟨h3, h⟩ := gdN h
  refine zz_putr C ddS_init_9 fl_S_9 (Or.inr ⟨hn, _, rfl, rfl⟩) rfl (fun _ => rfl) (fun _ => rfl) h2 (of_decide_eq_true h3) ?_
  refine zz_aload_n C 0 ddS_init_12 rfl rfl ?_
  refine zz_bipush (v := 24) C ddS_init_13 (by decide) ?_
  obtain ⟨q4, hq4, h⟩ := bindN h
  refine zz_newI C ddS_init_15 wd_49 hg (by decide) (by decide) hq4 ⟨by rw [hR]; exact Nat.le_of_ble_eq_true rfl, by rw [hR]; exact Nat.le_of_ble_eq_true rfl⟩ ?_
  refine zz_kn (k1 := 2) (n1 := 48) (by decide) (by decide) ?_
  obtain ⟨h5, h⟩ := gdN h
  obtain ⟨h6, h⟩ := gdN h
  refine zz_putr C ddS_init_17 fl_S_15 (Or.inr ⟨hn, _, rfl, rfl⟩) rfl (fun _ => rfl) (fun _ => rfl) h5 (of_decide_eq_true h6) ?_
  refine zz_aload_n C 0 ddS_init_20 rfl rfl ?_
  refine zz_bipush (v := 24) C ddS_init_21 (by decide) ?_
  obtain ⟨q7, hq7, h⟩ := bindN h
  refine zz_newI C ddS_init_23 wd_49 hg (by decide) (by decide) hq7 ⟨by rw [hR]; exact Nat.le_of_ble_eq_true rfl, by rw [hR]; exact Nat.le_of_ble_eq_true rfl⟩ ?_
  refine zz_kn (k1 := 3) (n1 := 72) (by decide) (by decide) ?_
  obtain ⟨h8, h⟩ := gdN h
  obtain ⟨h9, h⟩ := gdN h
  refine zz_putr C ddS_init_25 fl_S_18 (Or.inr ⟨hn, _, rfl, rfl⟩) rfl (fun _ => rfl) (fun _ => rfl) h8 (of_decide_eq_true h9) ?_
  refine zz_aload_n C 0 ddS_init_28 rfl rfl ?_
  refine zz_iconst (v := 0) C ddS_init_29 (by decide) ?_
  refine zz_puti C ddS_init_30 fl_S_21 rfl rfl rfl h8 ?_
  obtain rfl := Option.some.inj h
  exact zz_vret C E ddS_init_33
theorem ddC_init_0 : decode cC_init 0 = .ok (.aload_n 0, 1) := by decide +kernel
theorem ddC_init_1 : decode cC_init 1 = .ok (.invokespecial 3, 3) := by decide +kernel
theorem ddC_init_4 : decode cC_init 4 = .ok (.aload_n 0, 1) := by decide +kernel
theorem ddC_init_5 : decode cC_init 5 = .ok (.iload_n 1, 1) := by decide +kernel
theorem ddC_init_6 : decode cC_init 6 = .ok (.newarray .int, 2) := by decide +kernel
theorem ddC_init_8 : decode cC_init 8 = .ok (.putfield 9, 3) := by decide +kernel
theorem ddC_init_11 : decode cC_init 11 = .ok (.aload_n 0, 1) := by decide +kernel
theorem ddC_init_12 : decode cC_init 12 = .ok (.iload_n 1, 1) := by decide +kernel
theorem ddC_init_13 : decode cC_init 13 = .ok (.newarray .int, 2) := by decide +kernel
theorem ddC_init_15 : decode cC_init 15 = .ok (.putfield 15, 3) := by decide +kernel
theorem ddC_init_18 : decode cC_init 18 = .ok (.aload_n 0, 1) := by decide +kernel
theorem ddC_init_19 : decode cC_init 19 = .ok (.iload_n 2, 1) := by decide +kernel
theorem ddC_init_20 : decode cC_init 20 = .ok (.newarray .int, 2) := by decide +kernel
theorem ddC_init_22 : decode cC_init 22 = .ok (.putfield 18, 3) := by decide +kernel
theorem ddC_init_25 : decode cC_init 25 = .ok (.aload_n 0, 1) := by decide +kernel
theorem ddC_init_26 : decode cC_init 26 = .ok (.iload_n 2, 1) := by decide +kernel
theorem ddC_init_27 : decode cC_init 27 = .ok (.newarray .int, 2) := by decide +kernel
theorem ddC_init_29 : decode cC_init 29 = .ok (.putfield 21, 3) := by decide +kernel
theorem ddC_init_32 : decode cC_init 32 = .ok (.aload_n 0, 1) := by decide +kernel
theorem ddC_init_33 : decode cC_init 33 = .ok (.getfield 9, 3) := by decide +kernel
theorem ddC_init_36 : decode cC_init 36 = .ok (.iconst (-1), 1) := by decide +kernel
theorem ddC_init_37 : decode cC_init 37 = .ok (.invokestatic 24, 3) := by decide +kernel
theorem ddC_init_40 : decode cC_init 40 = .ok (.aload_n 0, 1) := by decide +kernel
theorem ddC_init_41 : decode cC_init 41 = .ok (.getfield 18, 3) := by decide +kernel
theorem ddC_init_44 : decode cC_init 44 = .ok (.iconst (-1), 1) := by decide +kernel
theorem ddC_init_45 : decode cC_init 45 = .ok (.invokestatic 24, 3) := by decide +kernel
theorem ddC_init_48 : decode cC_init 48 = .ok (.aload_n 0, 1) := by decide +kernel
theorem ddC_init_49 : decode cC_init 49 = .ok (.getfield 21, 3) := by decide +kernel
theorem ddC_init_52 : decode cC_init 52 = .ok (.iconst (-1), 1) := by decide +kernel
theorem ddC_init_53 : decode cC_init 53 = .ok (.invokestatic 24, 3) := by decide +kernel
theorem ddC_init_56 : decode cC_init 56 = .ok (.return_, 1) := by decide +kernel
set_option maxHeartbeats 8000000 in
set_option maxRecDepth 100000 in
theorem xC_init {G : GXM} {l : Launch} (hG : GokM G) (hg : G.2.2.2.2 = true) (d : Nat) (hd : 1 ≤ d) {v0 : Nat} {v1 : Int32} {v2 : Int32} {M : Mem} {q : Mem} (h : fC_init v0 v1 v2 M = some q) : ExM G l d 4 (0 + Int32.toNatClampNeg v1 + Int32.toNatClampNeg v1 + Int32.toNatClampNeg v2 + Int32.toNatClampNeg v2) yC_init cC_init 3 none [.ref v0, .int v1, .int v2] M none q := by
  refine ex_of hG (by decide +kernel) (Nat.le_of_ble_eq_true rfl) ?_
  intro X hl C E N hD hn
  have hR := EnM_R E
  show ZM G X 0 [(0, .ref v0), (1, .int v1), (2, .int v2)] [] M 0 0
  unfold fC_init at h
  refine zz_aload_n C 0 ddC_init_0 rfl rfl ?_
  refine zz_objInit C ddC_init_1 wd_129 ⟨wd_31, wd_32⟩ (by omega) (Nat.le_of_ble_eq_true rfl) ?_
  refine zz_aload_n C 0 ddC_init_4 rfl rfl ?_
  refine zz_iload_n C 1 ddC_init_5 rfl rfl ?_
  obtain ⟨h1, h⟩ := gdN h
  obtain ⟨h2, h⟩ := gdN h
  obtain ⟨q3, hq3, h⟩ := bindN h
  refine zz_newI C ddC_init_6 wd_49 hg (of_decide_eq_true h1) (of_decide_eq_true h2) hq3 ⟨by rw [hR]; exact Nat.le_of_ble_eq_true rfl, by rw [hR]; exact Nat.le_of_ble_eq_true rfl⟩ ?_
  obtain ⟨h4, h⟩ := gdN h
  obtain ⟨h5, h⟩ := gdN h
  refine zz_putr C ddC_init_8 fl_C_9 (Or.inr ⟨hn, _, rfl, rfl⟩) rfl (fun _ => rfl) (fun _ => rfl) h4 (of_decide_eq_true h5) ?_
  refine zz_aload_n C 0 ddC_init_11 rfl rfl ?_
  refine zz_iload_n C 1 ddC_init_12 rfl rfl ?_
  obtain ⟨h6, h⟩ := gdN h
  obtain ⟨h7, h⟩ := gdN h
  obtain ⟨q8, hq8, h⟩ := bindN h
  refine zz_newI C ddC_init_13 wd_49 hg (of_decide_eq_true h6) (of_decide_eq_true h7) hq8 ⟨by rw [hR]; exact Nat.le_of_ble_eq_true rfl, by rw [hR]; show _ ≤ 0 + Int32.toNatClampNeg v1 + Int32.toNatClampNeg v1 + Int32.toNatClampNeg v2 + Int32.toNatClampNeg v2; omega⟩ ?_
  obtain ⟨h9, h⟩ := gdN h
  obtain ⟨h10, h⟩ := gdN h
  refine zz_putr C ddC_init_15 fl_C_15 (Or.inr ⟨hn, _, rfl, rfl⟩) rfl (fun _ => rfl) (fun _ => rfl) h9 (of_decide_eq_true h10) ?_
  refine zz_aload_n C 0 ddC_init_18 rfl rfl ?_
  refine zz_iload_n C 2 ddC_init_19 rfl rfl ?_
  obtain ⟨h11, h⟩ := gdN h
  obtain ⟨h12, h⟩ := gdN h
  obtain ⟨q13, hq13, h⟩ := bindN h
  refine zz_newI C ddC_init_20 wd_49 hg (of_decide_eq_true h11) (of_decide_eq_true h12) hq13 ⟨by rw [hR]; exact Nat.le_of_ble_eq_true rfl, by rw [hR]; show _ ≤ 0 + Int32.toNatClampNeg v1 + Int32.toNatClampNeg v1 + Int32.toNatClampNeg v2 + Int32.toNatClampNeg v2; omega⟩ ?_
  obtain ⟨h14, h⟩ := gdN h
  obtain ⟨h15, h⟩ := gdN h
  refine zz_putr C ddC_init_22 fl_C_18 (Or.inr ⟨hn, _, rfl, rfl⟩) rfl (fun _ => rfl) (fun _ => rfl) h14 (of_decide_eq_true h15) ?_
  refine zz_aload_n C 0 ddC_init_25 rfl rfl ?_
  refine zz_iload_n C 2 ddC_init_26 rfl rfl ?_
  obtain ⟨h16, h⟩ := gdN h
  obtain ⟨h17, h⟩ := gdN h
  obtain ⟨q18, hq18, h⟩ := bindN h
  refine zz_newI C ddC_init_27 wd_49 hg (of_decide_eq_true h16) (of_decide_eq_true h17) hq18 ⟨by rw [hR]; exact Nat.le_of_ble_eq_true rfl, by rw [hR]; show _ ≤ 0 + Int32.toNatClampNeg v1 + Int32.toNatClampNeg v1 + Int32.toNatClampNeg v2 + Int32.toNatClampNeg v2; omega⟩ ?_
  obtain ⟨h19, h⟩ := gdN h
  obtain ⟨h20, h⟩ := gdN h
  refine zz_putr C ddC_init_29 fl_C_21 (Or.inr ⟨hn, _, rfl, rfl⟩) rfl (fun _ => rfl) (fun _ => rfl) h19 (of_decide_eq_true h20) ?_
  refine zz_aload_n C 0 ddC_init_32 rfl rfl ?_
  obtain ⟨h21, h⟩ := gdN h
  refine zz_getr C ddC_init_33 fl_C_9 rfl h19 (of_decide_eq_true h21) ?_
  refine zz_iconst (v := (-1)) C ddC_init_36 (by decide) ?_
  obtain ⟨q22, hq22, h⟩ := bindN h
  refine zz_callSk (As := [.ref (grM (srM q18 v0 3 (cnM q18)) v0 0), .int ((-1))]) C ddC_init_37 wd_130 my_Y_fill mv_Y_fill (xY_fill hG (d - 1) (by omega) hq22) (by omega) rfl rfl (Nat.le_of_ble_eq_true rfl) ⟨by rw [hR]; exact Nat.le_of_ble_eq_true rfl, by rw [hR]; show _ ≤ 0 + Int32.toNatClampNeg v1 + Int32.toNatClampNeg v1 + Int32.toNatClampNeg v2 + Int32.toNatClampNeg v2; omega⟩ ?_
  refine zz_aload_n C 0 ddC_init_40 rfl rfl ?_
  obtain ⟨h23, h⟩ := gdN h
  obtain ⟨h24, h⟩ := gdN h
  refine zz_getr C ddC_init_41 fl_C_18 rfl h23 (of_decide_eq_true h24) ?_
  refine zz_iconst (v := (-1)) C ddC_init_44 (by decide) ?_
  obtain ⟨q25, hq25, h⟩ := bindN h
  refine zz_callSk (As := [.ref (grM q22 v0 2), .int ((-1))]) C ddC_init_45 wd_130 my_Y_fill mv_Y_fill (xY_fill hG (d - 1) (by omega) hq25) (by omega) rfl rfl (Nat.le_of_ble_eq_true rfl) ⟨by rw [hR]; exact Nat.le_of_ble_eq_true rfl, by rw [hR]; show _ ≤ 0 + Int32.toNatClampNeg v1 + Int32.toNatClampNeg v1 + Int32.toNatClampNeg v2 + Int32.toNatClampNeg v2; omega⟩ ?_
  refine zz_aload_n C 0 ddC_init_48 rfl rfl ?_
  obtain ⟨h26, h⟩ := gdN h
  obtain ⟨h27, h⟩ := gdN h
  refine zz_getr C ddC_init_49 fl_C_21 rfl h26 (of_decide_eq_true h27) ?_
  refine zz_iconst (v := (-1)) C ddC_init_52 (by decide) ?_
  obtain ⟨q28, hq28, h⟩ := bindN h
  refine zz_callSk (As := [.ref (grM q25 v0 3), .int ((-1))]) C ddC_init_53 wd_130 my_Y_fill mv_Y_fill (xY_fill hG (d - 1) (by omega) hq28) (by omega) rfl rfl (Nat.le_of_ble_eq_true rfl) ⟨by rw [hR]; exact Nat.le_of_ble_eq_true rfl, by rw [hR]; show _ ≤ 0 + Int32.toNatClampNeg v1 + Int32.toNatClampNeg v1 + Int32.toNatClampNeg v2 + Int32.toNatClampNeg v2; omega⟩ ?_
  obtain rfl := Option.some.inj h
  exact zz_vret C E ddC_init_56
theorem ddL_init_0 : decode cL_init 0 = .ok (.aload_n 0, 1) := by decide +kernel
theorem ddL_init_1 : decode cL_init 1 = .ok (.invokespecial 3, 3) := by decide +kernel
theorem ddL_init_4 : decode cL_init 4 = .ok (.aload_n 0, 1) := by decide +kernel
theorem ddL_init_5 : decode cL_init 5 = .ok (.bipush 60, 2) := by decide +kernel
theorem ddL_init_7 : decode cL_init 7 = .ok (.newarray .int, 2) := by decide +kernel
theorem ddL_init_9 : decode cL_init 9 = .ok (.putfield 9, 3) := by decide +kernel
theorem ddL_init_12 : decode cL_init 12 = .ok (.aload_n 0, 1) := by decide +kernel
theorem ddL_init_13 : decode cL_init 13 = .ok (.iconst 0, 1) := by decide +kernel
theorem ddL_init_14 : decode cL_init 14 = .ok (.putfield 15, 3) := by decide +kernel
theorem ddL_init_17 : decode cL_init 17 = .ok (.return_, 1) := by decide +kernel
set_option maxHeartbeats 8000000 in
set_option maxRecDepth 100000 in
theorem xL_init {G : GXM} {l : Launch} (hG : GokM G) (hg : G.2.2.2.2 = true) (d : Nat) (hd : 1 ≤ d) {v0 : Nat} {M : Mem} {q : Mem} (h : fL_init v0 M = some q) : ExM G l d 1 (60) yL_init cL_init 1 none [.ref v0] M none q := by
  refine ex_of hG (by decide +kernel) (Nat.le_of_ble_eq_true rfl) ?_
  intro X hl C E N hD hn
  have hR := EnM_R E
  show ZM G X 0 [(0, .ref v0)] [] M 0 0
  unfold fL_init at h
  refine zz_aload_n C 0 ddL_init_0 rfl rfl ?_
  refine zz_objInit C ddL_init_1 wd_157 ⟨wd_31, wd_32⟩ (by omega) (Nat.le_of_ble_eq_true rfl) ?_
  refine zz_aload_n C 0 ddL_init_4 rfl rfl ?_
  refine zz_bipush (v := 60) C ddL_init_5 (by decide) ?_
  obtain ⟨q1, hq1, h⟩ := bindN h
  refine zz_newI C ddL_init_7 wd_49 hg (by decide) (by decide) hq1 ⟨by rw [hR]; exact Nat.le_of_ble_eq_true rfl, by rw [hR]; exact Nat.le_of_ble_eq_true rfl⟩ ?_
  refine zz_kn (k1 := 1) (n1 := 60) (by decide) (by decide) ?_
  obtain ⟨h2, h⟩ := gdN h
  obtain ⟨h3, h⟩ := gdN h
  refine zz_putr C ddL_init_9 fl_L_9 (Or.inr ⟨hn, _, rfl, rfl⟩) rfl (fun _ => rfl) (fun _ => rfl) h2 (of_decide_eq_true h3) ?_
  refine zz_aload_n C 0 ddL_init_12 rfl rfl ?_
  refine zz_iconst (v := 0) C ddL_init_13 (by decide) ?_
  refine zz_puti C ddL_init_14 fl_L_15 rfl rfl rfl h2 ?_
  obtain rfl := Option.some.inj h
  exact zz_vret C E ddL_init_17
theorem ddH_init_0 : decode cH_init 0 = .ok (.aload_n 0, 1) := by decide +kernel
theorem ddH_init_1 : decode cH_init 1 = .ok (.invokespecial 3, 3) := by decide +kernel
theorem ddH_init_4 : decode cH_init 4 = .ok (.aload_n 0, 1) := by decide +kernel
theorem ddH_init_5 : decode cH_init 5 = .ok (.bipush 16, 2) := by decide +kernel
theorem ddH_init_7 : decode cH_init 7 = .ok (.newarray .int, 2) := by decide +kernel
theorem ddH_init_9 : decode cH_init 9 = .ok (.putfield 9, 3) := by decide +kernel
theorem ddH_init_12 : decode cH_init 12 = .ok (.aload_n 0, 1) := by decide +kernel
theorem ddH_init_13 : decode cH_init 13 = .ok (.bipush 16, 2) := by decide +kernel
theorem ddH_init_15 : decode cH_init 15 = .ok (.newarray .int, 2) := by decide +kernel
theorem ddH_init_17 : decode cH_init 17 = .ok (.putfield 15, 3) := by decide +kernel
theorem ddH_init_20 : decode cH_init 20 = .ok (.aload_n 0, 1) := by decide +kernel
theorem ddH_init_21 : decode cH_init 21 = .ok (.bipush 16, 2) := by decide +kernel
theorem ddH_init_23 : decode cH_init 23 = .ok (.newarray .int, 2) := by decide +kernel
theorem ddH_init_25 : decode cH_init 25 = .ok (.putfield 18, 3) := by decide +kernel
theorem ddH_init_28 : decode cH_init 28 = .ok (.aload_n 0, 1) := by decide +kernel
theorem ddH_init_29 : decode cH_init 29 = .ok (.new 21, 3) := by decide +kernel
theorem ddH_init_32 : decode cH_init 32 = .ok (.dup, 1) := by decide +kernel
theorem ddH_init_33 : decode cH_init 33 = .ok (.bipush 24, 2) := by decide +kernel
theorem ddH_init_35 : decode cH_init 35 = .ok (.bipush 16, 2) := by decide +kernel
theorem ddH_init_37 : decode cH_init 37 = .ok (.invokespecial 23, 3) := by decide +kernel
theorem ddH_init_40 : decode cH_init 40 = .ok (.putfield 26, 3) := by decide +kernel
theorem ddH_init_43 : decode cH_init 43 = .ok (.aload_n 0, 1) := by decide +kernel
theorem ddH_init_44 : decode cH_init 44 = .ok (.new 21, 3) := by decide +kernel
theorem ddH_init_47 : decode cH_init 47 = .ok (.dup, 1) := by decide +kernel
theorem ddH_init_48 : decode cH_init 48 = .ok (.bipush 112, 2) := by decide +kernel
theorem ddH_init_50 : decode cH_init 50 = .ok (.sipush 640, 3) := by decide +kernel
theorem ddH_init_53 : decode cH_init 53 = .ok (.invokespecial 23, 3) := by decide +kernel
theorem ddH_init_56 : decode cH_init 56 = .ok (.putfield 30, 3) := by decide +kernel
theorem ddH_init_59 : decode cH_init 59 = .ok (.aload_n 0, 1) := by decide +kernel
theorem ddH_init_60 : decode cH_init 60 = .ok (.iconst 4, 1) := by decide +kernel
theorem ddH_init_61 : decode cH_init 61 = .ok (.newarray .int, 2) := by decide +kernel
theorem ddH_init_63 : decode cH_init 63 = .ok (.putfield 33, 3) := by decide +kernel
theorem ddH_init_66 : decode cH_init 66 = .ok (.aload_n 0, 1) := by decide +kernel
theorem ddH_init_67 : decode cH_init 67 = .ok (.iconst 4, 1) := by decide +kernel
theorem ddH_init_68 : decode cH_init 68 = .ok (.newarray .int, 2) := by decide +kernel
theorem ddH_init_70 : decode cH_init 70 = .ok (.putfield 36, 3) := by decide +kernel
theorem ddH_init_73 : decode cH_init 73 = .ok (.aload_n 0, 1) := by decide +kernel
theorem ddH_init_74 : decode cH_init 74 = .ok (.new 39, 3) := by decide +kernel
theorem ddH_init_77 : decode cH_init 77 = .ok (.dup, 1) := by decide +kernel
theorem ddH_init_78 : decode cH_init 78 = .ok (.invokespecial 41, 3) := by decide +kernel
theorem ddH_init_81 : decode cH_init 81 = .ok (.putfield 42, 3) := by decide +kernel
theorem ddH_init_84 : decode cH_init 84 = .ok (.aload_n 0, 1) := by decide +kernel
theorem ddH_init_85 : decode cH_init 85 = .ok (.aload_n 1, 1) := by decide +kernel
theorem ddH_init_86 : decode cH_init 86 = .ok (.putfield 46, 3) := by decide +kernel
theorem ddH_init_89 : decode cH_init 89 = .ok (.aload_n 0, 1) := by decide +kernel
theorem ddH_init_90 : decode cH_init 90 = .ok (.getfield 9, 3) := by decide +kernel
theorem ddH_init_93 : decode cH_init 93 = .ok (.iconst (-1), 1) := by decide +kernel
theorem ddH_init_94 : decode cH_init 94 = .ok (.invokestatic 50, 3) := by decide +kernel
theorem ddH_init_97 : decode cH_init 97 = .ok (.aload_n 0, 1) := by decide +kernel
theorem ddH_init_98 : decode cH_init 98 = .ok (.getfield 15, 3) := by decide +kernel
theorem ddH_init_101 : decode cH_init 101 = .ok (.iconst (-1), 1) := by decide +kernel
theorem ddH_init_102 : decode cH_init 102 = .ok (.invokestatic 50, 3) := by decide +kernel
theorem ddH_init_105 : decode cH_init 105 = .ok (.aload_n 0, 1) := by decide +kernel
theorem ddH_init_106 : decode cH_init 106 = .ok (.getfield 33, 3) := by decide +kernel
theorem ddH_init_109 : decode cH_init 109 = .ok (.iconst 1, 1) := by decide +kernel
theorem ddH_init_110 : decode cH_init 110 = .ok (.invokestatic 50, 3) := by decide +kernel
theorem ddH_init_113 : decode cH_init 113 = .ok (.return_, 1) := by decide +kernel
set_option maxHeartbeats 8000000 in
set_option maxRecDepth 100000 in
theorem xH_init {G : GXM} {l : Launch} (hG : GokM G) (hg : G.2.2.2.2 = true) (d : Nat) (hd : 2 ≤ d) {v0 : Nat} {v1 : Nat} {M : Mem} {q : Mem} (h : fH_init v0 v1 M = some q) : ExM G l d 17 (1710) yH_init cH_init 2 none [.ref v0, .ref v1] M none q := by
  refine ex_of hG (by decide +kernel) (Nat.le_of_ble_eq_true rfl) ?_
  intro X hl C E N hD hn
  have hR := EnM_R E
  show ZM G X 0 [(0, .ref v0), (1, .ref v1)] [] M 0 0
  unfold fH_init at h
  refine zz_aload_n C 0 ddH_init_0 rfl rfl ?_
  refine zz_objInit C ddH_init_1 wd_123 ⟨wd_31, wd_32⟩ (by omega) (Nat.le_of_ble_eq_true rfl) ?_
  refine zz_aload_n C 0 ddH_init_4 rfl rfl ?_
  refine zz_bipush (v := 16) C ddH_init_5 (by decide) ?_
  obtain ⟨q1, hq1, h⟩ := bindN h
  refine zz_newI C ddH_init_7 wd_49 hg (by decide) (by decide) hq1 ⟨by rw [hR]; exact Nat.le_of_ble_eq_true rfl, by rw [hR]; exact Nat.le_of_ble_eq_true rfl⟩ ?_
  refine zz_kn (k1 := 1) (n1 := 16) (by decide) (by decide) ?_
  obtain ⟨h2, h⟩ := gdN h
  obtain ⟨h3, h⟩ := gdN h
  refine zz_putr C ddH_init_9 fl_H_9 (Or.inr ⟨hn, _, rfl, rfl⟩) rfl (fun _ => rfl) (fun _ => rfl) h2 (of_decide_eq_true h3) ?_
  refine zz_aload_n C 0 ddH_init_12 rfl rfl ?_
  refine zz_bipush (v := 16) C ddH_init_13 (by decide) ?_
  obtain ⟨q4, hq4, h⟩ := bindN h
  refine zz_newI C ddH_init_15 wd_49 hg (by decide) (by decide) hq4 ⟨by rw [hR]; exact Nat.le_of_ble_eq_true rfl, by rw [hR]; exact Nat.le_of_ble_eq_true rfl⟩ ?_
  refine zz_kn (k1 := 2) (n1 := 32) (by decide) (by decide) ?_
  obtain ⟨h5, h⟩ := gdN h
  obtain ⟨h6, h⟩ := gdN h
  refine zz_putr C ddH_init_17 fl_H_15 (Or.inr ⟨hn, _, rfl, rfl⟩) rfl (fun _ => rfl) (fun _ => rfl) h5 (of_decide_eq_true h6) ?_
  refine zz_aload_n C 0 ddH_init_20 rfl rfl ?_
  refine zz_bipush (v := 16) C ddH_init_21 (by decide) ?_
  obtain ⟨q7, hq7, h⟩ := bindN h
  refine zz_newI C ddH_init_23 wd_49 hg (by decide) (by decide) hq7 ⟨by rw [hR]; exact Nat.le_of_ble_eq_true rfl, by rw [hR]; exact Nat.le_of_ble_eq_true rfl⟩ ?_
  refine zz_kn (k1 := 3) (n1 := 48) (by decide) (by decide) ?_
  obtain ⟨h8, h⟩ := gdN h
  obtain ⟨h9, h⟩ := gdN h
  refine zz_putr C ddH_init_25 fl_H_18 (Or.inr ⟨hn, _, rfl, rfl⟩) rfl (fun _ => rfl) (fun _ => rfl) h8 (of_decide_eq_true h9) ?_
  refine zz_aload_n C 0 ddH_init_28 rfl rfl ?_
  obtain ⟨q10, hq10, h⟩ := bindN h
  refine zz_new C ddH_init_29 (t := 0) rfl rfl ⟨wd_124, wd_125, wd_7⟩ hg hq10 ⟨by rw [hR]; exact Nat.le_of_ble_eq_true rfl, by rw [hR]; exact Nat.le_of_ble_eq_true rfl⟩ ?_
  refine zz_kn (k1 := 4) (n1 := 52) (by decide) (by decide) ?_
  refine zz_dup C ddH_init_32 rfl ?_
  refine zz_bipush (v := 24) C ddH_init_33 (by decide) ?_
  refine zz_bipush (v := 16) C ddH_init_35 (by decide) ?_
  obtain ⟨q11, hq11, h⟩ := bindN h
  refine zz_callI (As := [.int 24, .int 16]) C ddH_init_37 wd_126 my_C_init ⟨rfl, mi_C_init⟩ (xC_init hG hg (d - 1) (by omega) hq11) (by omega) rfl rfl (Nat.le_of_ble_eq_true rfl) ⟨by rw [hR]; exact Nat.le_of_ble_eq_true rfl, by rw [hR]; exact Nat.le_of_ble_eq_true rfl⟩ ?_
  refine zz_kn (k1 := 8) (n1 := 132) (by decide) (by decide) ?_
  obtain ⟨h12, h⟩ := gdN h
  obtain ⟨h13, h⟩ := gdN h
  refine zz_putr C ddH_init_40 fl_H_26 (Or.inr ⟨hn, _, rfl, rfl⟩) rfl (fun _ => rfl) (fun _ => rfl) h12 (of_decide_eq_true h13) ?_
  refine zz_aload_n C 0 ddH_init_43 rfl rfl ?_
  obtain ⟨q14, hq14, h⟩ := bindN h
  refine zz_new C ddH_init_44 (t := 0) rfl rfl ⟨wd_124, wd_125, wd_7⟩ hg hq14 ⟨by rw [hR]; exact Nat.le_of_ble_eq_true rfl, by rw [hR]; exact Nat.le_of_ble_eq_true rfl⟩ ?_
  refine zz_kn (k1 := 9) (n1 := 136) (by decide) (by decide) ?_
  refine zz_dup C ddH_init_47 rfl ?_
  refine zz_bipush (v := 112) C ddH_init_48 (by decide) ?_
  refine zz_sipush (v := 640) C ddH_init_50 (by decide) ?_
  obtain ⟨q15, hq15, h⟩ := bindN h
  refine zz_callI (As := [.int 112, .int 640]) C ddH_init_53 wd_126 my_C_init ⟨rfl, mi_C_init⟩ (xC_init hG hg (d - 1) (by omega) hq15) (by omega) rfl rfl (Nat.le_of_ble_eq_true rfl) ⟨by rw [hR]; exact Nat.le_of_ble_eq_true rfl, by rw [hR]; exact Nat.le_of_ble_eq_true rfl⟩ ?_
  refine zz_kn (k1 := 13) (n1 := 1640) (by decide) (by decide) ?_
  obtain ⟨h16, h⟩ := gdN h
  obtain ⟨h17, h⟩ := gdN h
  refine zz_putr C ddH_init_56 fl_H_30 (Or.inr ⟨hn, _, rfl, rfl⟩) rfl (fun _ => rfl) (fun _ => rfl) h16 (of_decide_eq_true h17) ?_
  refine zz_aload_n C 0 ddH_init_59 rfl rfl ?_
  refine zz_iconst (v := 4) C ddH_init_60 (by decide) ?_
  obtain ⟨q18, hq18, h⟩ := bindN h
  refine zz_newI C ddH_init_61 wd_49 hg (by decide) (by decide) hq18 ⟨by rw [hR]; exact Nat.le_of_ble_eq_true rfl, by rw [hR]; exact Nat.le_of_ble_eq_true rfl⟩ ?_
  refine zz_kn (k1 := 14) (n1 := 1644) (by decide) (by decide) ?_
  obtain ⟨h19, h⟩ := gdN h
  obtain ⟨h20, h⟩ := gdN h
  refine zz_putr C ddH_init_63 fl_H_33 (Or.inr ⟨hn, _, rfl, rfl⟩) rfl (fun _ => rfl) (fun _ => rfl) h19 (of_decide_eq_true h20) ?_
  refine zz_aload_n C 0 ddH_init_66 rfl rfl ?_
  refine zz_iconst (v := 4) C ddH_init_67 (by decide) ?_
  obtain ⟨q21, hq21, h⟩ := bindN h
  refine zz_newI C ddH_init_68 wd_49 hg (by decide) (by decide) hq21 ⟨by rw [hR]; exact Nat.le_of_ble_eq_true rfl, by rw [hR]; exact Nat.le_of_ble_eq_true rfl⟩ ?_
  refine zz_kn (k1 := 15) (n1 := 1648) (by decide) (by decide) ?_
  obtain ⟨h22, h⟩ := gdN h
  obtain ⟨h23, h⟩ := gdN h
  refine zz_putr C ddH_init_70 fl_H_36 (Or.inr ⟨hn, _, rfl, rfl⟩) rfl (fun _ => rfl) (fun _ => rfl) h22 (of_decide_eq_true h23) ?_
  refine zz_aload_n C 0 ddH_init_73 rfl rfl ?_
  obtain ⟨q24, hq24, h⟩ := bindN h
  refine zz_new C ddH_init_74 (t := 2) rfl rfl ⟨wd_152, wd_153, wd_9⟩ hg hq24 ⟨by rw [hR]; exact Nat.le_of_ble_eq_true rfl, by rw [hR]; exact Nat.le_of_ble_eq_true rfl⟩ ?_
  refine zz_kn (k1 := 16) (n1 := 1650) (by decide) (by decide) ?_
  refine zz_dup C ddH_init_77 rfl ?_
  obtain ⟨q25, hq25, h⟩ := bindN h
  refine zz_callIN (As := []) C ddH_init_78 wd_154 my_L_init ⟨rfl, mi_L_init⟩ (xL_init hG hg (d - 1) (by omega) hq25) (by omega) rfl rfl (Nat.le_of_ble_eq_true rfl) ⟨by rw [hR]; exact Nat.le_of_ble_eq_true rfl, by rw [hR]; exact Nat.le_of_ble_eq_true rfl⟩ ?_
  refine zz_kn (k1 := 17) (n1 := 1710) (by decide) (by decide) ?_
  obtain ⟨h26, h⟩ := gdN h
  obtain ⟨h27, h⟩ := gdN h
  refine zz_putr C ddH_init_81 fl_H_42 (Or.inr ⟨hn, _, rfl, rfl⟩) rfl (fun _ => rfl) (fun _ => rfl) h26 (of_decide_eq_true h27) ?_
  refine zz_aload_n C 0 ddH_init_84 rfl rfl ?_
  refine zz_aload_n C 1 ddH_init_85 rfl rfl ?_
  obtain ⟨h28, h⟩ := gdN h
  refine zz_putr C ddH_init_86 fl_H_46 (Or.inr ⟨hn, _, rfl, rfl⟩) rfl (fun _ => rfl) (fun _ => rfl) h26 (of_decide_eq_true h28) ?_
  refine zz_aload_n C 0 ddH_init_89 rfl rfl ?_
  obtain ⟨h29, h⟩ := gdN h
  refine zz_getr C ddH_init_90 fl_H_9 rfl h26 (of_decide_eq_true h29) ?_
  refine zz_iconst (v := (-1)) C ddH_init_93 (by decide) ?_
  obtain ⟨q30, hq30, h⟩ := bindN h
  refine zz_callSk (As := [.ref (grM (srM (srM q25 v0 8 (cnM q24)) v0 0 v1) v0 1), .int ((-1))]) C ddH_init_94 wd_166 my_Y_fill mv_Y_fill (xY_fill hG (d - 1) (by omega) hq30) (by omega) rfl rfl (Nat.le_of_ble_eq_true rfl) ⟨by rw [hR]; exact Nat.le_of_ble_eq_true rfl, by rw [hR]; exact Nat.le_of_ble_eq_true rfl⟩ ?_
  refine zz_aload_n C 0 ddH_init_97 rfl rfl ?_
  obtain ⟨h31, h⟩ := gdN h
  obtain ⟨h32, h⟩ := gdN h
  refine zz_getr C ddH_init_98 fl_H_15 rfl h31 (of_decide_eq_true h32) ?_
  refine zz_iconst (v := (-1)) C ddH_init_101 (by decide) ?_
  obtain ⟨q33, hq33, h⟩ := bindN h
  refine zz_callSk (As := [.ref (grM q30 v0 2), .int ((-1))]) C ddH_init_102 wd_166 my_Y_fill mv_Y_fill (xY_fill hG (d - 1) (by omega) hq33) (by omega) rfl rfl (Nat.le_of_ble_eq_true rfl) ⟨by rw [hR]; exact Nat.le_of_ble_eq_true rfl, by rw [hR]; exact Nat.le_of_ble_eq_true rfl⟩ ?_
  refine zz_aload_n C 0 ddH_init_105 rfl rfl ?_
  obtain ⟨h34, h⟩ := gdN h
  obtain ⟨h35, h⟩ := gdN h
  refine zz_getr C ddH_init_106 fl_H_33 rfl h34 (of_decide_eq_true h35) ?_
  refine zz_iconst (v := 1) C ddH_init_109 (by decide) ?_
  obtain ⟨q36, hq36, h⟩ := bindN h
  refine zz_callSk (As := [.ref (grM q33 v0 6), .int 1]) C ddH_init_110 wd_166 my_Y_fill mv_Y_fill (xY_fill hG (d - 1) (by omega) hq36) (by omega) rfl rfl (Nat.le_of_ble_eq_true rfl) ⟨by rw [hR]; exact Nat.le_of_ble_eq_true rfl, by rw [hR]; exact Nat.le_of_ble_eq_true rfl⟩ ?_
  obtain rfl := Option.some.inj h
  exact zz_vret C E ddH_init_113
theorem ddP_init_0 : decode cP_init 0 = .ok (.aload_n 0, 1) := by decide +kernel
theorem ddP_init_1 : decode cP_init 1 = .ok (.invokespecial 3, 3) := by decide +kernel
theorem ddP_init_4 : decode cP_init 4 = .ok (.aload_n 0, 1) := by decide +kernel
theorem ddP_init_5 : decode cP_init 5 = .ok (.bipush 40, 2) := by decide +kernel
theorem ddP_init_7 : decode cP_init 7 = .ok (.anewarray 9, 3) := by decide +kernel
theorem ddP_init_10 : decode cP_init 10 = .ok (.putfield 11, 3) := by decide +kernel
theorem ddP_init_13 : decode cP_init 13 = .ok (.iconst 0, 1) := by decide +kernel
theorem ddP_init_14 : decode cP_init 14 = .ok (.istore_n 2, 1) := by decide +kernel
theorem ddP_init_15 : decode cP_init 15 = .ok (.iload_n 2, 1) := by decide +kernel
theorem ddP_init_16 : decode cP_init 16 = .ok (.bipush 40, 2) := by decide +kernel
theorem ddP_init_18 : decode cP_init 18 = .ok (.if_icmp .ge 23, 3) := by decide +kernel
theorem ddP_init_21 : decode cP_init 21 = .ok (.aload_n 0, 1) := by decide +kernel
theorem ddP_init_22 : decode cP_init 22 = .ok (.getfield 11, 3) := by decide +kernel
theorem ddP_init_25 : decode cP_init 25 = .ok (.iload_n 2, 1) := by decide +kernel
theorem ddP_init_26 : decode cP_init 26 = .ok (.new 9, 3) := by decide +kernel
theorem ddP_init_29 : decode cP_init 29 = .ok (.dup, 1) := by decide +kernel
theorem ddP_init_30 : decode cP_init 30 = .ok (.aload_n 1, 1) := by decide +kernel
theorem ddP_init_31 : decode cP_init 31 = .ok (.invokespecial 17, 3) := by decide +kernel
theorem ddP_init_34 : decode cP_init 34 = .ok (.aastore, 1) := by decide +kernel
theorem ddP_init_35 : decode cP_init 35 = .ok (.iinc 2 1, 3) := by decide +kernel
theorem ddP_init_38 : decode cP_init 38 = .ok (.goto (-23), 3) := by decide +kernel
theorem ddP_init_41 : decode cP_init 41 = .ok (.aload_n 0, 1) := by decide +kernel
theorem ddP_init_42 : decode cP_init 42 = .ok (.iconst 0, 1) := by decide +kernel
theorem ddP_init_43 : decode cP_init 43 = .ok (.putfield 20, 3) := by decide +kernel
theorem ddP_init_46 : decode cP_init 46 = .ok (.aload_n 0, 1) := by decide +kernel
theorem ddP_init_47 : decode cP_init 47 = .ok (.iconst 0, 1) := by decide +kernel
theorem ddP_init_48 : decode cP_init 48 = .ok (.putfield 24, 3) := by decide +kernel
theorem ddP_init_51 : decode cP_init 51 = .ok (.return_, 1) := by decide +kernel
set_option maxHeartbeats 8000000 in
set_option maxRecDepth 100000 in
theorem xP_init {G : GXM} {l : Launch} (hG : GokM G) (hg : G.2.2.2.2 = true) (d : Nat) (hd : 3 ≤ d) {v0 : Nat} {v1 : Nat} {M : Mem} {q : Mem} (h : fP_init v0 v1 M = some q) : ExM G l d 721 (68800) yP_init cP_init 3 none [.ref v0, .ref v1] M none q := by
  refine ex_of hG (by decide +kernel) (Nat.le_of_ble_eq_true rfl) ?_
  intro X hl C E N hD hn
  have hR := EnM_R E
  show ZM G X 0 [(0, .ref v0), (1, .ref v1)] [] M 0 0
  unfold fP_init at h
  refine zz_aload_n C 0 ddP_init_0 rfl rfl ?_
  refine zz_objInit C ddP_init_1 wd_206 ⟨wd_31, wd_32⟩ (by omega) (Nat.le_of_ble_eq_true rfl) ?_
  refine zz_aload_n C 0 ddP_init_4 rfl rfl ?_
  refine zz_bipush (v := 40) C ddP_init_5 (by decide) ?_
  obtain ⟨q1, hq1, h⟩ := bindN h
  refine zz_newR (t := 103) C ddP_init_7 wd_207 wd_208 (by decide) (fun _ => rfl) hg (by decide) (by decide) hq1 ⟨by rw [hR]; exact Nat.le_of_ble_eq_true rfl, by rw [hR]; exact Nat.le_of_ble_eq_true rfl⟩ ?_
  refine zz_kn (k1 := 1) (n1 := 40) (by decide) (by decide) ?_
  obtain ⟨h2, h⟩ := gdN h
  obtain ⟨h3, h⟩ := gdN h
  refine zz_putr C ddP_init_10 fl_P_11 (Or.inr ⟨hn, _, rfl, rfl⟩) rfl (fun _ => rfl) (fun _ => rfl) h2 (of_decide_eq_true h3) ?_
  refine zz_iconst (v := 0) C ddP_init_13 (by decide) ?_
  refine zz_istore_n (L1 := [(2, .int 0), (0, .ref v0), (1, .ref v1)]) C ddP_init_14 rfl N (by decide) rfl ?_
  refine zz_iload_n C 0 ddP_init_15 rfl rfl ?_
  refine zz_bipush (v := 40) C ddP_init_16 (by decide) ?_
  refine zz_icmp_ge (tgt := 41) C ddP_init_18 rfl (fun hc => absurd hc (by decide)) (fun hc => ?_)
  refine zz_aload_n C 1 ddP_init_21 rfl rfl ?_
  obtain ⟨h4, h⟩ := gdN h
  refine zz_getr C ddP_init_22 fl_P_11 rfl h2 (of_decide_eq_true h4) ?_
  refine zz_iload_n C 0 ddP_init_25 rfl rfl ?_
  obtain ⟨q5, hq5, h⟩ := bindN h
  refine zz_new C ddP_init_26 (t := 1) rfl rfl ⟨wd_207, wd_119, wd_6⟩ hg hq5 ⟨by rw [hR]; exact Nat.le_of_ble_eq_true rfl, by rw [hR]; exact Nat.le_of_ble_eq_true rfl⟩ ?_
  refine zz_kn (k1 := 2) (n1 := 49) (by decide) (by decide) ?_
  refine zz_dup C ddP_init_29 rfl ?_
  refine zz_aload_n C 2 ddP_init_30 rfl rfl ?_
  obtain ⟨q6, hq6, h⟩ := bindN h
  refine zz_callI (As := [.ref v1]) C ddP_init_31 wd_209 my_H_init ⟨rfl, mi_H_init⟩ (xH_init hG hg (d - 1) (by omega) hq6) (by omega) rfl rfl (Nat.le_of_ble_eq_true rfl) ⟨by rw [hR]; exact Nat.le_of_ble_eq_true rfl, by rw [hR]; exact Nat.le_of_ble_eq_true rfl⟩ ?_
  refine zz_kn (k1 := 19) (n1 := 1759) (by decide) (by decide) ?_
  obtain ⟨h7, h⟩ := gdN h
  obtain ⟨h8, h⟩ := gdN h
  refine zz_aastore (t := 103) (tc := 1) C ddP_init_34 rfl (by decide) (fun _ => rfl) h7 h8 ?_
  refine zz_iinc (v := 1) (L1 := [(2, .int 1), (0, .ref v0), (1, .ref v1)]) C 0 ddP_init_35 rfl (by decide) N (by decide) rfl ?_
  refine zz_goto (tgt := 15) C ddP_init_38 rfl ?_
  refine zz_iload_n C 0 ddP_init_15 rfl rfl ?_
  refine zz_bipush (v := 40) C ddP_init_16 (by decide) ?_
  refine zz_icmp_ge (tgt := 41) C ddP_init_18 rfl (fun hc => absurd hc (by decide)) (fun hc => ?_)
  refine zz_aload_n C 1 ddP_init_21 rfl rfl ?_
  obtain ⟨h9, h⟩ := gdN h
  obtain ⟨h10, h⟩ := gdN h
  refine zz_getr C ddP_init_22 fl_P_11 rfl h9 (of_decide_eq_true h10) ?_
  refine zz_iload_n C 0 ddP_init_25 rfl rfl ?_
  obtain ⟨q11, hq11, h⟩ := bindN h
  refine zz_new C ddP_init_26 (t := 1) rfl rfl ⟨wd_207, wd_119, wd_6⟩ hg hq11 ⟨by rw [hR]; exact Nat.le_of_ble_eq_true rfl, by rw [hR]; exact Nat.le_of_ble_eq_true rfl⟩ ?_
  refine zz_kn (k1 := 20) (n1 := 1768) (by decide) (by decide) ?_
  refine zz_dup C ddP_init_29 rfl ?_
  refine zz_aload_n C 2 ddP_init_30 rfl rfl ?_
  obtain ⟨q12, hq12, h⟩ := bindN h
  refine zz_callI (As := [.ref v1]) C ddP_init_31 wd_209 my_H_init ⟨rfl, mi_H_init⟩ (xH_init hG hg (d - 1) (by omega) hq12) (by omega) rfl rfl (Nat.le_of_ble_eq_true rfl) ⟨by rw [hR]; exact Nat.le_of_ble_eq_true rfl, by rw [hR]; exact Nat.le_of_ble_eq_true rfl⟩ ?_
  refine zz_kn (k1 := 37) (n1 := 3478) (by decide) (by decide) ?_
  obtain ⟨h13, h⟩ := gdN h
  obtain ⟨h14, h⟩ := gdN h
  refine zz_aastore (t := 103) (tc := 1) C ddP_init_34 rfl (by decide) (fun _ => rfl) h13 h14 ?_
  refine zz_iinc (v := 2) (L1 := [(2, .int 2), (0, .ref v0), (1, .ref v1)]) C 0 ddP_init_35 rfl (by decide) N (by decide) rfl ?_
  refine zz_goto (tgt := 15) C ddP_init_38 rfl ?_
  refine zz_iload_n C 0 ddP_init_15 rfl rfl ?_
  refine zz_bipush (v := 40) C ddP_init_16 (by decide) ?_
  refine zz_icmp_ge (tgt := 41) C ddP_init_18 rfl (fun hc => absurd hc (by decide)) (fun hc => ?_)
  refine zz_aload_n C 1 ddP_init_21 rfl rfl ?_
  obtain ⟨h15, h⟩ := gdN h
  obtain ⟨h16, h⟩ := gdN h
  refine zz_getr C ddP_init_22 fl_P_11 rfl h15 (of_decide_eq_true h16) ?_
  refine zz_iload_n C 0 ddP_init_25 rfl rfl ?_
  obtain ⟨q17, hq17, h⟩ := bindN h
  refine zz_new C ddP_init_26 (t := 1) rfl rfl ⟨wd_207, wd_119, wd_6⟩ hg hq17 ⟨by rw [hR]; exact Nat.le_of_ble_eq_true rfl, by rw [hR]; exact Nat.le_of_ble_eq_true rfl⟩ ?_
  refine zz_kn (k1 := 38) (n1 := 3487) (by decide) (by decide) ?_
  refine zz_dup C ddP_init_29 rfl ?_
  refine zz_aload_n C 2 ddP_init_30 rfl rfl ?_
  obtain ⟨q18, hq18, h⟩ := bindN h
  refine zz_callI (As := [.ref v1]) C ddP_init_31 wd_209 my_H_init ⟨rfl, mi_H_init⟩ (xH_init hG hg (d - 1) (by omega) hq18) (by omega) rfl rfl (Nat.le_of_ble_eq_true rfl) ⟨by rw [hR]; exact Nat.le_of_ble_eq_true rfl, by rw [hR]; exact Nat.le_of_ble_eq_true rfl⟩ ?_
  refine zz_kn (k1 := 55) (n1 := 5197) (by decide) (by decide) ?_
  obtain ⟨h19, h⟩ := gdN h
  obtain ⟨h20, h⟩ := gdN h
  refine zz_aastore (t := 103) (tc := 1) C ddP_init_34 rfl (by decide) (fun _ => rfl) h19 h20 ?_
  refine zz_iinc (v := 3) (L1 := [(2, .int 3), (0, .ref v0), (1, .ref v1)]) C 0 ddP_init_35 rfl (by decide) N (by decide) rfl ?_
  refine zz_goto (tgt := 15) C ddP_init_38 rfl ?_
  refine zz_iload_n C 0 ddP_init_15 rfl rfl ?_
  refine zz_bipush (v := 40) C ddP_init_16 (by decide) ?_
  refine zz_icmp_ge (tgt := 41) C ddP_init_18 rfl (fun hc => absurd hc (by decide)) (fun hc => ?_)
  refine zz_aload_n C 1 ddP_init_21 rfl rfl ?_
  obtain ⟨h21, h⟩ := gdN h
  obtain ⟨h22, h⟩ := gdN h
  refine zz_getr C ddP_init_22 fl_P_11 rfl h21 (of_decide_eq_true h22) ?_
  refine zz_iload_n C 0 ddP_init_25 rfl rfl ?_
  obtain ⟨q23, hq23, h⟩ := bindN h
  refine zz_new C ddP_init_26 (t := 1) rfl rfl ⟨wd_207, wd_119, wd_6⟩ hg hq23 ⟨by rw [hR]; exact Nat.le_of_ble_eq_true rfl, by rw [hR]; exact Nat.le_of_ble_eq_true rfl⟩ ?_
  refine zz_kn (k1 := 56) (n1 := 5206) (by decide) (by decide) ?_
  refine zz_dup C ddP_init_29 rfl ?_
  refine zz_aload_n C 2 ddP_init_30 rfl rfl ?_
  obtain ⟨q24, hq24, h⟩ := bindN h
  refine zz_callI (As := [.ref v1]) C ddP_init_31 wd_209 my_H_init ⟨rfl, mi_H_init⟩ (xH_init hG hg (d - 1) (by omega) hq24) (by omega) rfl rfl (Nat.le_of_ble_eq_true rfl) ⟨by rw [hR]; exact Nat.le_of_ble_eq_true rfl, by rw [hR]; exact Nat.le_of_ble_eq_true rfl⟩ ?_
  refine zz_kn (k1 := 73) (n1 := 6916) (by decide) (by decide) ?_
  obtain ⟨h25, h⟩ := gdN h
  obtain ⟨h26, h⟩ := gdN h
  refine zz_aastore (t := 103) (tc := 1) C ddP_init_34 rfl (by decide) (fun _ => rfl) h25 h26 ?_
  refine zz_iinc (v := 4) (L1 := [(2, .int 4), (0, .ref v0), (1, .ref v1)]) C 0 ddP_init_35 rfl (by decide) N (by decide) rfl ?_
  refine zz_goto (tgt := 15) C ddP_init_38 rfl ?_
  refine zz_iload_n C 0 ddP_init_15 rfl rfl ?_
  refine zz_bipush (v := 40) C ddP_init_16 (by decide) ?_
  refine zz_icmp_ge (tgt := 41) C ddP_init_18 rfl (fun hc => absurd hc (by decide)) (fun hc => ?_)
  refine zz_aload_n C 1 ddP_init_21 rfl rfl ?_
  obtain ⟨h27, h⟩ := gdN h
  obtain ⟨h28, h⟩ := gdN h
  refine zz_getr C ddP_init_22 fl_P_11 rfl h27 (of_decide_eq_true h28) ?_
  refine zz_iload_n C 0 ddP_init_25 rfl rfl ?_
  obtain ⟨q29, hq29, h⟩ := bindN h
  refine zz_new C ddP_init_26 (t := 1) rfl rfl ⟨wd_207, wd_119, wd_6⟩ hg hq29 ⟨by rw [hR]; exact Nat.le_of_ble_eq_true rfl, by rw [hR]; exact Nat.le_of_ble_eq_true rfl⟩ ?_
  refine zz_kn (k1 := 74) (n1 := 6925) (by decide) (by decide) ?_
  refine zz_dup C ddP_init_29 rfl ?_
  refine zz_aload_n C 2 ddP_init_30 rfl rfl ?_
  obtain ⟨q30, hq30, h⟩ := bindN h
  refine zz_callI (As := [.ref v1]) C ddP_init_31 wd_209 my_H_init ⟨rfl, mi_H_init⟩ (xH_init hG hg (d - 1) (by omega) hq30) (by omega) rfl rfl (Nat.le_of_ble_eq_true rfl) ⟨by rw [hR]; exact Nat.le_of_ble_eq_true rfl, by rw [hR]; exact Nat.le_of_ble_eq_true rfl⟩ ?_
  refine zz_kn (k1 := 91) (n1 := 8635) (by decide) (by decide) ?_
  obtain ⟨h31, h⟩ := gdN h
  obtain ⟨h32, h⟩ := gdN h
  refine zz_aastore (t := 103) (tc := 1) C ddP_init_34 rfl (by decide) (fun _ => rfl) h31 h32 ?_
  refine zz_iinc (v := 5) (L1 := [(2, .int 5), (0, .ref v0), (1, .ref v1)]) C 0 ddP_init_35 rfl (by decide) N (by decide) rfl ?_
  refine zz_goto (tgt := 15) C ddP_init_38 rfl ?_
  refine zz_iload_n C 0 ddP_init_15 rfl rfl ?_
  refine zz_bipush (v := 40) C ddP_init_16 (by decide) ?_
  refine zz_icmp_ge (tgt := 41) C ddP_init_18 rfl (fun hc => absurd hc (by decide)) (fun hc => ?_)
  refine zz_aload_n C 1 ddP_init_21 rfl rfl ?_
  obtain ⟨h33, h⟩ := gdN h
  obtain ⟨h34, h⟩ := gdN h
  refine zz_getr C ddP_init_22 fl_P_11 rfl h33 (of_decide_eq_true h34) ?_
  refine zz_iload_n C 0 ddP_init_25 rfl rfl ?_
  obtain ⟨q35, hq35, h⟩ := bindN h
  refine zz_new C ddP_init_26 (t := 1) rfl rfl ⟨wd_207, wd_119, wd_6⟩ hg hq35 ⟨by rw [hR]; exact Nat.le_of_ble_eq_true rfl, by rw [hR]; exact Nat.le_of_ble_eq_true rfl⟩ ?_
  refine zz_kn (k1 := 92) (n1 := 8644) (by decide) (by decide) ?_
  refine zz_dup C ddP_init_29 rfl ?_
  refine zz_aload_n C 2 ddP_init_30 rfl rfl ?_
  obtain ⟨q36, hq36, h⟩ := bindN h
  refine zz_callI (As := [.ref v1]) C ddP_init_31 wd_209 my_H_init ⟨rfl, mi_H_init⟩ (xH_init hG hg (d - 1) (by omega) hq36) (by omega) rfl rfl (Nat.le_of_ble_eq_true rfl) ⟨by rw [hR]; exact Nat.le_of_ble_eq_true rfl, by rw [hR]; exact Nat.le_of_ble_eq_true rfl⟩ ?_
  refine zz_kn (k1 := 109) (n1 := 10354) (by decide) (by decide) ?_
  obtain ⟨h37, h⟩ := gdN h
  obtain ⟨h38, h⟩ := gdN h
  refine zz_aastore (t := 103) (tc := 1) C ddP_init_34 rfl (by decide) (fun _ => rfl) h37 h38 ?_
  refine zz_iinc (v := 6) (L1 := [(2, .int 6), (0, .ref v0), (1, .ref v1)]) C 0 ddP_init_35 rfl (by decide) N (by decide) rfl ?_
  refine zz_goto (tgt := 15) C ddP_init_38 rfl ?_
  refine zz_iload_n C 0 ddP_init_15 rfl rfl ?_
  refine zz_bipush (v := 40) C ddP_init_16 (by decide) ?_
  refine zz_icmp_ge (tgt := 41) C ddP_init_18 rfl (fun hc => absurd hc (by decide)) (fun hc => ?_)
  refine zz_aload_n C 1 ddP_init_21 rfl rfl ?_
  obtain ⟨h39, h⟩ := gdN h
  obtain ⟨h40, h⟩ := gdN h
  refine zz_getr C ddP_init_22 fl_P_11 rfl h39 (of_decide_eq_true h40) ?_
  refine zz_iload_n C 0 ddP_init_25 rfl rfl ?_
  obtain ⟨q41, hq41, h⟩ := bindN h
  refine zz_new C ddP_init_26 (t := 1) rfl rfl ⟨wd_207, wd_119, wd_6⟩ hg hq41 ⟨by rw [hR]; exact Nat.le_of_ble_eq_true rfl, by rw [hR]; exact Nat.le_of_ble_eq_true rfl⟩ ?_
  refine zz_kn (k1 := 110) (n1 := 10363) (by decide) (by decide) ?_
  refine zz_dup C ddP_init_29 rfl ?_
  refine zz_aload_n C 2 ddP_init_30 rfl rfl ?_
  obtain ⟨q42, hq42, h⟩ := bindN h
  refine zz_callI (As := [.ref v1]) C ddP_init_31 wd_209 my_H_init ⟨rfl, mi_H_init⟩ (xH_init hG hg (d - 1) (by omega) hq42) (by omega) rfl rfl (Nat.le_of_ble_eq_true rfl) ⟨by rw [hR]; exact Nat.le_of_ble_eq_true rfl, by rw [hR]; exact Nat.le_of_ble_eq_true rfl⟩ ?_
  refine zz_kn (k1 := 127) (n1 := 12073) (by decide) (by decide) ?_
  obtain ⟨h43, h⟩ := gdN h
  obtain ⟨h44, h⟩ := gdN h
  refine zz_aastore (t := 103) (tc := 1) C ddP_init_34 rfl (by decide) (fun _ => rfl) h43 h44 ?_
  refine zz_iinc (v := 7) (L1 := [(2, .int 7), (0, .ref v0), (1, .ref v1)]) C 0 ddP_init_35 rfl (by decide) N (by decide) rfl ?_
  refine zz_goto (tgt := 15) C ddP_init_38 rfl ?_
  refine zz_iload_n C 0 ddP_init_15 rfl rfl ?_
  refine zz_bipush (v := 40) C ddP_init_16 (by decide) ?_
  refine zz_icmp_ge (tgt := 41) C ddP_init_18 rfl (fun hc => absurd hc (by decide)) (fun hc => ?_)
  refine zz_aload_n C 1 ddP_init_21 rfl rfl ?_
  obtain ⟨h45, h⟩ := gdN h
  obtain ⟨h46, h⟩ := gdN h
  refine zz_getr C ddP_init_22 fl_P_11 rfl h45 (of_decide_eq_true h46) ?_
  refine zz_iload_n C 0 ddP_init_25 rfl rfl ?_
  obtain ⟨q47, hq47, h⟩ := bindN h
  refine zz_new C ddP_init_26 (t := 1) rfl rfl ⟨wd_207, wd_119, wd_6⟩ hg hq47 ⟨by rw [hR]; exact Nat.le_of_ble_eq_true rfl, by rw [hR]; exact Nat.le_of_ble_eq_true rfl⟩ ?_
  refine zz_kn (k1 := 128) (n1 := 12082) (by decide) (by decide) ?_
  refine zz_dup C ddP_init_29 rfl ?_
  refine zz_aload_n C 2 ddP_init_30 rfl rfl ?_
  obtain ⟨q48, hq48, h⟩ := bindN h
  refine zz_callI (As := [.ref v1]) C ddP_init_31 wd_209 my_H_init ⟨rfl, mi_H_init⟩ (xH_init hG hg (d - 1) (by omega) hq48) (by omega) rfl rfl (Nat.le_of_ble_eq_true rfl) ⟨by rw [hR]; exact Nat.le_of_ble_eq_true rfl, by rw [hR]; exact Nat.le_of_ble_eq_true rfl⟩ ?_
  refine zz_kn (k1 := 145) (n1 := 13792) (by decide) (by decide) ?_
  obtain ⟨h49, h⟩ := gdN h
  obtain ⟨h50, h⟩ := gdN h
  refine zz_aastore (t := 103) (tc := 1) C ddP_init_34 rfl (by decide) (fun _ => rfl) h49 h50 ?_
  refine zz_iinc (v := 8) (L1 := [(2, .int 8), (0, .ref v0), (1, .ref v1)]) C 0 ddP_init_35 rfl (by decide) N (by decide) rfl ?_
  refine zz_goto (tgt := 15) C ddP_init_38 rfl ?_
  refine zz_iload_n C 0 ddP_init_15 rfl rfl ?_
  refine zz_bipush (v := 40) C ddP_init_16 (by decide) ?_
  refine zz_icmp_ge (tgt := 41) C ddP_init_18 rfl (fun hc => absurd hc (by decide)) (fun hc => ?_)
  refine zz_aload_n C 1 ddP_init_21 rfl rfl ?_
  obtain ⟨h51, h⟩ := gdN h
  obtain ⟨h52, h⟩ := gdN h
  refine zz_getr C ddP_init_22 fl_P_11 rfl h51 (of_decide_eq_true h52) ?_
  refine zz_iload_n C 0 ddP_init_25 rfl rfl ?_
  obtain ⟨q53, hq53, h⟩ := bindN h
  refine zz_new C ddP_init_26 (t := 1) rfl rfl ⟨wd_207, wd_119, wd_6⟩ hg hq53 ⟨by rw [hR]; exact Nat.le_of_ble_eq_true rfl, by rw [hR]; exact Nat.le_of_ble_eq_true rfl⟩ ?_
  refine zz_kn (k1 := 146) (n1 := 13801) (by decide) (by decide) ?_
  refine zz_dup C ddP_init_29 rfl ?_
  refine zz_aload_n C 2 ddP_init_30 rfl rfl ?_
  obtain ⟨q54, hq54, h⟩ := bindN h
  refine zz_callI (As := [.ref v1]) C ddP_init_31 wd_209 my_H_init ⟨rfl, mi_H_init⟩ (xH_init hG hg (d - 1) (by omega) hq54) (by omega) rfl rfl (Nat.le_of_ble_eq_true rfl) ⟨by rw [hR]; exact Nat.le_of_ble_eq_true rfl, by rw [hR]; exact Nat.le_of_ble_eq_true rfl⟩ ?_
  refine zz_kn (k1 := 163) (n1 := 15511) (by decide) (by decide) ?_
  obtain ⟨h55, h⟩ := gdN h
  obtain ⟨h56, h⟩ := gdN h
  refine zz_aastore (t := 103) (tc := 1) C ddP_init_34 rfl (by decide) (fun _ => rfl) h55 h56 ?_
  refine zz_iinc (v := 9) (L1 := [(2, .int 9), (0, .ref v0), (1, .ref v1)]) C 0 ddP_init_35 rfl (by decide) N (by decide) rfl ?_
  refine zz_goto (tgt := 15) C ddP_init_38 rfl ?_
  refine zz_iload_n C 0 ddP_init_15 rfl rfl ?_
  refine zz_bipush (v := 40) C ddP_init_16 (by decide) ?_
  refine zz_icmp_ge (tgt := 41) C ddP_init_18 rfl (fun hc => absurd hc (by decide)) (fun hc => ?_)
  refine zz_aload_n C 1 ddP_init_21 rfl rfl ?_
  obtain ⟨h57, h⟩ := gdN h
  obtain ⟨h58, h⟩ := gdN h
  refine zz_getr C ddP_init_22 fl_P_11 rfl h57 (of_decide_eq_true h58) ?_
  refine zz_iload_n C 0 ddP_init_25 rfl rfl ?_
  obtain ⟨q59, hq59, h⟩ := bindN h
  refine zz_new C ddP_init_26 (t := 1) rfl rfl ⟨wd_207, wd_119, wd_6⟩ hg hq59 ⟨by rw [hR]; exact Nat.le_of_ble_eq_true rfl, by rw [hR]; exact Nat.le_of_ble_eq_true rfl⟩ ?_
  refine zz_kn (k1 := 164) (n1 := 15520) (by decide) (by decide) ?_
  refine zz_dup C ddP_init_29 rfl ?_
  refine zz_aload_n C 2 ddP_init_30 rfl rfl ?_
  obtain ⟨q60, hq60, h⟩ := bindN h
  refine zz_callI (As := [.ref v1]) C ddP_init_31 wd_209 my_H_init ⟨rfl, mi_H_init⟩ (xH_init hG hg (d - 1) (by omega) hq60) (by omega) rfl rfl (Nat.le_of_ble_eq_true rfl) ⟨by rw [hR]; exact Nat.le_of_ble_eq_true rfl, by rw [hR]; exact Nat.le_of_ble_eq_true rfl⟩ ?_
  refine zz_kn (k1 := 181) (n1 := 17230) (by decide) (by decide) ?_
  obtain ⟨h61, h⟩ := gdN h
  obtain ⟨h62, h⟩ := gdN h
  refine zz_aastore (t := 103) (tc := 1) C ddP_init_34 rfl (by decide) (fun _ => rfl) h61 h62 ?_
  refine zz_iinc (v := 10) (L1 := [(2, .int 10), (0, .ref v0), (1, .ref v1)]) C 0 ddP_init_35 rfl (by decide) N (by decide) rfl ?_
  refine zz_goto (tgt := 15) C ddP_init_38 rfl ?_
  refine zz_iload_n C 0 ddP_init_15 rfl rfl ?_
  refine zz_bipush (v := 40) C ddP_init_16 (by decide) ?_
  refine zz_icmp_ge (tgt := 41) C ddP_init_18 rfl (fun hc => absurd hc (by decide)) (fun hc => ?_)
  refine zz_aload_n C 1 ddP_init_21 rfl rfl ?_
  obtain ⟨h63, h⟩ := gdN h
  obtain ⟨h64, h⟩ := gdN h
  refine zz_getr C ddP_init_22 fl_P_11 rfl h63 (of_decide_eq_true h64) ?_
  refine zz_iload_n C 0 ddP_init_25 rfl rfl ?_
  obtain ⟨q65, hq65, h⟩ := bindN h
  refine zz_new C ddP_init_26 (t := 1) rfl rfl ⟨wd_207, wd_119, wd_6⟩ hg hq65 ⟨by rw [hR]; exact Nat.le_of_ble_eq_true rfl, by rw [hR]; exact Nat.le_of_ble_eq_true rfl⟩ ?_
  refine zz_kn (k1 := 182) (n1 := 17239) (by decide) (by decide) ?_
  refine zz_dup C ddP_init_29 rfl ?_
  refine zz_aload_n C 2 ddP_init_30 rfl rfl ?_
  obtain ⟨q66, hq66, h⟩ := bindN h
  refine zz_callI (As := [.ref v1]) C ddP_init_31 wd_209 my_H_init ⟨rfl, mi_H_init⟩ (xH_init hG hg (d - 1) (by omega) hq66) (by omega) rfl rfl (Nat.le_of_ble_eq_true rfl) ⟨by rw [hR]; exact Nat.le_of_ble_eq_true rfl, by rw [hR]; exact Nat.le_of_ble_eq_true rfl⟩ ?_
  refine zz_kn (k1 := 199) (n1 := 18949) (by decide) (by decide) ?_
  obtain ⟨h67, h⟩ := gdN h
  obtain ⟨h68, h⟩ := gdN h
  refine zz_aastore (t := 103) (tc := 1) C ddP_init_34 rfl (by decide) (fun _ => rfl) h67 h68 ?_
  refine zz_iinc (v := 11) (L1 := [(2, .int 11), (0, .ref v0), (1, .ref v1)]) C 0 ddP_init_35 rfl (by decide) N (by decide) rfl ?_
  refine zz_goto (tgt := 15) C ddP_init_38 rfl ?_
  refine zz_iload_n C 0 ddP_init_15 rfl rfl ?_
  refine zz_bipush (v := 40) C ddP_init_16 (by decide) ?_
  refine zz_icmp_ge (tgt := 41) C ddP_init_18 rfl (fun hc => absurd hc (by decide)) (fun hc => ?_)
  refine zz_aload_n C 1 ddP_init_21 rfl rfl ?_
  obtain ⟨h69, h⟩ := gdN h
  obtain ⟨h70, h⟩ := gdN h
  refine zz_getr C ddP_init_22 fl_P_11 rfl h69 (of_decide_eq_true h70) ?_
  refine zz_iload_n C 0 ddP_init_25 rfl rfl ?_
  obtain ⟨q71, hq71, h⟩ := bindN h
  refine zz_new C ddP_init_26 (t := 1) rfl rfl ⟨wd_207, wd_119, wd_6⟩ hg hq71 ⟨by rw [hR]; exact Nat.le_of_ble_eq_true rfl, by rw [hR]; exact Nat.le_of_ble_eq_true rfl⟩ ?_
  refine zz_kn (k1 := 200) (n1 := 18958) (by decide) (by decide) ?_
  refine zz_dup C ddP_init_29 rfl ?_
  refine zz_aload_n C 2 ddP_init_30 rfl rfl ?_
  obtain ⟨q72, hq72, h⟩ := bindN h
  refine zz_callI (As := [.ref v1]) C ddP_init_31 wd_209 my_H_init ⟨rfl, mi_H_init⟩ (xH_init hG hg (d - 1) (by omega) hq72) (by omega) rfl rfl (Nat.le_of_ble_eq_true rfl) ⟨by rw [hR]; exact Nat.le_of_ble_eq_true rfl, by rw [hR]; exact Nat.le_of_ble_eq_true rfl⟩ ?_
  refine zz_kn (k1 := 217) (n1 := 20668) (by decide) (by decide) ?_
  obtain ⟨h73, h⟩ := gdN h
  obtain ⟨h74, h⟩ := gdN h
  refine zz_aastore (t := 103) (tc := 1) C ddP_init_34 rfl (by decide) (fun _ => rfl) h73 h74 ?_
  refine zz_iinc (v := 12) (L1 := [(2, .int 12), (0, .ref v0), (1, .ref v1)]) C 0 ddP_init_35 rfl (by decide) N (by decide) rfl ?_
  refine zz_goto (tgt := 15) C ddP_init_38 rfl ?_
  refine zz_iload_n C 0 ddP_init_15 rfl rfl ?_
  refine zz_bipush (v := 40) C ddP_init_16 (by decide) ?_
  refine zz_icmp_ge (tgt := 41) C ddP_init_18 rfl (fun hc => absurd hc (by decide)) (fun hc => ?_)
  refine zz_aload_n C 1 ddP_init_21 rfl rfl ?_
  obtain ⟨h75, h⟩ := gdN h
  obtain ⟨h76, h⟩ := gdN h
  refine zz_getr C ddP_init_22 fl_P_11 rfl h75 (of_decide_eq_true h76) ?_
  refine zz_iload_n C 0 ddP_init_25 rfl rfl ?_
  obtain ⟨q77, hq77, h⟩ := bindN h
  refine zz_new C ddP_init_26 (t := 1) rfl rfl ⟨wd_207, wd_119, wd_6⟩ hg hq77 ⟨by rw [hR]; exact Nat.le_of_ble_eq_true rfl, by rw [hR]; exact Nat.le_of_ble_eq_true rfl⟩ ?_
  refine zz_kn (k1 := 218) (n1 := 20677) (by decide) (by decide) ?_
  refine zz_dup C ddP_init_29 rfl ?_
  refine zz_aload_n C 2 ddP_init_30 rfl rfl ?_
  obtain ⟨q78, hq78, h⟩ := bindN h
  refine zz_callI (As := [.ref v1]) C ddP_init_31 wd_209 my_H_init ⟨rfl, mi_H_init⟩ (xH_init hG hg (d - 1) (by omega) hq78) (by omega) rfl rfl (Nat.le_of_ble_eq_true rfl) ⟨by rw [hR]; exact Nat.le_of_ble_eq_true rfl, by rw [hR]; exact Nat.le_of_ble_eq_true rfl⟩ ?_
  refine zz_kn (k1 := 235) (n1 := 22387) (by decide) (by decide) ?_
  obtain ⟨h79, h⟩ := gdN h
  obtain ⟨h80, h⟩ := gdN h
  refine zz_aastore (t := 103) (tc := 1) C ddP_init_34 rfl (by decide) (fun _ => rfl) h79 h80 ?_
  refine zz_iinc (v := 13) (L1 := [(2, .int 13), (0, .ref v0), (1, .ref v1)]) C 0 ddP_init_35 rfl (by decide) N (by decide) rfl ?_
  refine zz_goto (tgt := 15) C ddP_init_38 rfl ?_
  refine zz_iload_n C 0 ddP_init_15 rfl rfl ?_
  refine zz_bipush (v := 40) C ddP_init_16 (by decide) ?_
  refine zz_icmp_ge (tgt := 41) C ddP_init_18 rfl (fun hc => absurd hc (by decide)) (fun hc => ?_)
  refine zz_aload_n C 1 ddP_init_21 rfl rfl ?_
  obtain ⟨h81, h⟩ := gdN h
  obtain ⟨h82, h⟩ := gdN h
  refine zz_getr C ddP_init_22 fl_P_11 rfl h81 (of_decide_eq_true h82) ?_
  refine zz_iload_n C 0 ddP_init_25 rfl rfl ?_
  obtain ⟨q83, hq83, h⟩ := bindN h
  refine zz_new C ddP_init_26 (t := 1) rfl rfl ⟨wd_207, wd_119, wd_6⟩ hg hq83 ⟨by rw [hR]; exact Nat.le_of_ble_eq_true rfl, by rw [hR]; exact Nat.le_of_ble_eq_true rfl⟩ ?_
  refine zz_kn (k1 := 236) (n1 := 22396) (by decide) (by decide) ?_
  refine zz_dup C ddP_init_29 rfl ?_
  refine zz_aload_n C 2 ddP_init_30 rfl rfl ?_
  obtain ⟨q84, hq84, h⟩ := bindN h
  refine zz_callI (As := [.ref v1]) C ddP_init_31 wd_209 my_H_init ⟨rfl, mi_H_init⟩ (xH_init hG hg (d - 1) (by omega) hq84) (by omega) rfl rfl (Nat.le_of_ble_eq_true rfl) ⟨by rw [hR]; exact Nat.le_of_ble_eq_true rfl, by rw [hR]; exact Nat.le_of_ble_eq_true rfl⟩ ?_
  refine zz_kn (k1 := 253) (n1 := 24106) (by decide) (by decide) ?_
  obtain ⟨h85, h⟩ := gdN h
  obtain ⟨h86, h⟩ := gdN h
  refine zz_aastore (t := 103) (tc := 1) C ddP_init_34 rfl (by decide) (fun _ => rfl) h85 h86 ?_
  refine zz_iinc (v := 14) (L1 := [(2, .int 14), (0, .ref v0), (1, .ref v1)]) C 0 ddP_init_35 rfl (by decide) N (by decide) rfl ?_
  refine zz_goto (tgt := 15) C ddP_init_38 rfl ?_
  refine zz_iload_n C 0 ddP_init_15 rfl rfl ?_
  refine zz_bipush (v := 40) C ddP_init_16 (by decide) ?_
  refine zz_icmp_ge (tgt := 41) C ddP_init_18 rfl (fun hc => absurd hc (by decide)) (fun hc => ?_)
  refine zz_aload_n C 1 ddP_init_21 rfl rfl ?_
  obtain ⟨h87, h⟩ := gdN h
  obtain ⟨h88, h⟩ := gdN h
  refine zz_getr C ddP_init_22 fl_P_11 rfl h87 (of_decide_eq_true h88) ?_
  refine zz_iload_n C 0 ddP_init_25 rfl rfl ?_
  obtain ⟨q89, hq89, h⟩ := bindN h
  refine zz_new C ddP_init_26 (t := 1) rfl rfl ⟨wd_207, wd_119, wd_6⟩ hg hq89 ⟨by rw [hR]; exact Nat.le_of_ble_eq_true rfl, by rw [hR]; exact Nat.le_of_ble_eq_true rfl⟩ ?_
  refine zz_kn (k1 := 254) (n1 := 24115) (by decide) (by decide) ?_
  refine zz_dup C ddP_init_29 rfl ?_
  refine zz_aload_n C 2 ddP_init_30 rfl rfl ?_
  obtain ⟨q90, hq90, h⟩ := bindN h
  refine zz_callI (As := [.ref v1]) C ddP_init_31 wd_209 my_H_init ⟨rfl, mi_H_init⟩ (xH_init hG hg (d - 1) (by omega) hq90) (by omega) rfl rfl (Nat.le_of_ble_eq_true rfl) ⟨by rw [hR]; exact Nat.le_of_ble_eq_true rfl, by rw [hR]; exact Nat.le_of_ble_eq_true rfl⟩ ?_
  refine zz_kn (k1 := 271) (n1 := 25825) (by decide) (by decide) ?_
  obtain ⟨h91, h⟩ := gdN h
  obtain ⟨h92, h⟩ := gdN h
  refine zz_aastore (t := 103) (tc := 1) C ddP_init_34 rfl (by decide) (fun _ => rfl) h91 h92 ?_
  refine zz_iinc (v := 15) (L1 := [(2, .int 15), (0, .ref v0), (1, .ref v1)]) C 0 ddP_init_35 rfl (by decide) N (by decide) rfl ?_
  refine zz_goto (tgt := 15) C ddP_init_38 rfl ?_
  refine zz_iload_n C 0 ddP_init_15 rfl rfl ?_
  refine zz_bipush (v := 40) C ddP_init_16 (by decide) ?_
  refine zz_icmp_ge (tgt := 41) C ddP_init_18 rfl (fun hc => absurd hc (by decide)) (fun hc => ?_)
  refine zz_aload_n C 1 ddP_init_21 rfl rfl ?_
  obtain ⟨h93, h⟩ := gdN h
  obtain ⟨h94, h⟩ := gdN h
  refine zz_getr C ddP_init_22 fl_P_11 rfl h93 (of_decide_eq_true h94) ?_
  refine zz_iload_n C 0 ddP_init_25 rfl rfl ?_
  obtain ⟨q95, hq95, h⟩ := bindN h
  refine zz_new C ddP_init_26 (t := 1) rfl rfl ⟨wd_207, wd_119, wd_6⟩ hg hq95 ⟨by rw [hR]; exact Nat.le_of_ble_eq_true rfl, by rw [hR]; exact Nat.le_of_ble_eq_true rfl⟩ ?_
  refine zz_kn (k1 := 272) (n1 := 25834) (by decide) (by decide) ?_
  refine zz_dup C ddP_init_29 rfl ?_
  refine zz_aload_n C 2 ddP_init_30 rfl rfl ?_
  obtain ⟨q96, hq96, h⟩ := bindN h
  refine zz_callI (As := [.ref v1]) C ddP_init_31 wd_209 my_H_init ⟨rfl, mi_H_init⟩ (xH_init hG hg (d - 1) (by omega) hq96) (by omega) rfl rfl (Nat.le_of_ble_eq_true rfl) ⟨by rw [hR]; exact Nat.le_of_ble_eq_true rfl, by rw [hR]; exact Nat.le_of_ble_eq_true rfl⟩ ?_
  refine zz_kn (k1 := 289) (n1 := 27544) (by decide) (by decide) ?_
  obtain ⟨h97, h⟩ := gdN h
  obtain ⟨h98, h⟩ := gdN h
  refine zz_aastore (t := 103) (tc := 1) C ddP_init_34 rfl (by decide) (fun _ => rfl) h97 h98 ?_
  refine zz_iinc (v := 16) (L1 := [(2, .int 16), (0, .ref v0), (1, .ref v1)]) C 0 ddP_init_35 rfl (by decide) N (by decide) rfl ?_
  refine zz_goto (tgt := 15) C ddP_init_38 rfl ?_
  refine zz_iload_n C 0 ddP_init_15 rfl rfl ?_
  refine zz_bipush (v := 40) C ddP_init_16 (by decide) ?_
  refine zz_icmp_ge (tgt := 41) C ddP_init_18 rfl (fun hc => absurd hc (by decide)) (fun hc => ?_)
  refine zz_aload_n C 1 ddP_init_21 rfl rfl ?_
  obtain ⟨h99, h⟩ := gdN h
  obtain ⟨h100, h⟩ := gdN h
  refine zz_getr C ddP_init_22 fl_P_11 rfl h99 (of_decide_eq_true h100) ?_
  refine zz_iload_n C 0 ddP_init_25 rfl rfl ?_
  obtain ⟨q101, hq101, h⟩ := bindN h
  refine zz_new C ddP_init_26 (t := 1) rfl rfl ⟨wd_207, wd_119, wd_6⟩ hg hq101 ⟨by rw [hR]; exact Nat.le_of_ble_eq_true rfl, by rw [hR]; exact Nat.le_of_ble_eq_true rfl⟩ ?_
  refine zz_kn (k1 := 290) (n1 := 27553) (by decide) (by decide) ?_
  refine zz_dup C ddP_init_29 rfl ?_
  refine zz_aload_n C 2 ddP_init_30 rfl rfl ?_
  obtain ⟨q102, hq102, h⟩ := bindN h
  refine zz_callI (As := [.ref v1]) C ddP_init_31 wd_209 my_H_init ⟨rfl, mi_H_init⟩ (xH_init hG hg (d - 1) (by omega) hq102) (by omega) rfl rfl (Nat.le_of_ble_eq_true rfl) ⟨by rw [hR]; exact Nat.le_of_ble_eq_true rfl, by rw [hR]; exact Nat.le_of_ble_eq_true rfl⟩ ?_
  refine zz_kn (k1 := 307) (n1 := 29263) (by decide) (by decide) ?_
  obtain ⟨h103, h⟩ := gdN h
  obtain ⟨h104, h⟩ := gdN h
  refine zz_aastore (t := 103) (tc := 1) C ddP_init_34 rfl (by decide) (fun _ => rfl) h103 h104 ?_
  refine zz_iinc (v := 17) (L1 := [(2, .int 17), (0, .ref v0), (1, .ref v1)]) C 0 ddP_init_35 rfl (by decide) N (by decide) rfl ?_
  refine zz_goto (tgt := 15) C ddP_init_38 rfl ?_
  refine zz_iload_n C 0 ddP_init_15 rfl rfl ?_
  refine zz_bipush (v := 40) C ddP_init_16 (by decide) ?_
  refine zz_icmp_ge (tgt := 41) C ddP_init_18 rfl (fun hc => absurd hc (by decide)) (fun hc => ?_)
  refine zz_aload_n C 1 ddP_init_21 rfl rfl ?_
  obtain ⟨h105, h⟩ := gdN h
  obtain ⟨h106, h⟩ := gdN h
  refine zz_getr C ddP_init_22 fl_P_11 rfl h105 (of_decide_eq_true h106) ?_
  refine zz_iload_n C 0 ddP_init_25 rfl rfl ?_
  obtain ⟨q107, hq107, h⟩ := bindN h
  refine zz_new C ddP_init_26 (t := 1) rfl rfl ⟨wd_207, wd_119, wd_6⟩ hg hq107 ⟨by rw [hR]; exact Nat.le_of_ble_eq_true rfl, by rw [hR]; exact Nat.le_of_ble_eq_true rfl⟩ ?_
  refine zz_kn (k1 := 308) (n1 := 29272) (by decide) (by decide) ?_
  refine zz_dup C ddP_init_29 rfl ?_
  refine zz_aload_n C 2 ddP_init_30 rfl rfl ?_
  obtain ⟨q108, hq108, h⟩ := bindN h
  refine zz_callI (As := [.ref v1]) C ddP_init_31 wd_209 my_H_init ⟨rfl, mi_H_init⟩ (xH_init hG hg (d - 1) (by omega) hq108) (by omega) rfl rfl (Nat.le_of_ble_eq_true rfl) ⟨by rw [hR]; exact Nat.le_of_ble_eq_true rfl, by rw [hR]; exact Nat.le_of_ble_eq_true rfl⟩ ?_
  refine zz_kn (k1 := 325) (n1 := 30982) (by decide) (by decide) ?_
  obtain ⟨h109, h⟩ := gdN h
  obtain ⟨h110, h⟩ := gdN h
  refine zz_aastore (t := 103) (tc := 1) C ddP_init_34 rfl (by decide) (fun _ => rfl) h109 h110 ?_
  refine zz_iinc (v := 18) (L1 := [(2, .int 18), (0, .ref v0), (1, .ref v1)]) C 0 ddP_init_35 rfl (by decide) N (by decide) rfl ?_
  refine zz_goto (tgt := 15) C ddP_init_38 rfl ?_
  refine zz_iload_n C 0 ddP_init_15 rfl rfl ?_
  refine zz_bipush (v := 40) C ddP_init_16 (by decide) ?_
  refine zz_icmp_ge (tgt := 41) C ddP_init_18 rfl (fun hc => absurd hc (by decide)) (fun hc => ?_)
  refine zz_aload_n C 1 ddP_init_21 rfl rfl ?_
  obtain ⟨h111, h⟩ := gdN h
  obtain ⟨h112, h⟩ := gdN h
  refine zz_getr C ddP_init_22 fl_P_11 rfl h111 (of_decide_eq_true h112) ?_
  refine zz_iload_n C 0 ddP_init_25 rfl rfl ?_
  obtain ⟨q113, hq113, h⟩ := bindN h
  refine zz_new C ddP_init_26 (t := 1) rfl rfl ⟨wd_207, wd_119, wd_6⟩ hg hq113 ⟨by rw [hR]; exact Nat.le_of_ble_eq_true rfl, by rw [hR]; exact Nat.le_of_ble_eq_true rfl⟩ ?_
  refine zz_kn (k1 := 326) (n1 := 30991) (by decide) (by decide) ?_
  refine zz_dup C ddP_init_29 rfl ?_
  refine zz_aload_n C 2 ddP_init_30 rfl rfl ?_
  obtain ⟨q114, hq114, h⟩ := bindN h
  refine zz_callI (As := [.ref v1]) C ddP_init_31 wd_209 my_H_init ⟨rfl, mi_H_init⟩ (xH_init hG hg (d - 1) (by omega) hq114) (by omega) rfl rfl (Nat.le_of_ble_eq_true rfl) ⟨by rw [hR]; exact Nat.le_of_ble_eq_true rfl, by rw [hR]; exact Nat.le_of_ble_eq_true rfl⟩ ?_
  refine zz_kn (k1 := 343) (n1 := 32701) (by decide) (by decide) ?_
  obtain ⟨h115, h⟩ := gdN h
  obtain ⟨h116, h⟩ := gdN h
  refine zz_aastore (t := 103) (tc := 1) C ddP_init_34 rfl (by decide) (fun _ => rfl) h115 h116 ?_
  refine zz_iinc (v := 19) (L1 := [(2, .int 19), (0, .ref v0), (1, .ref v1)]) C 0 ddP_init_35 rfl (by decide) N (by decide) rfl ?_
  refine zz_goto (tgt := 15) C ddP_init_38 rfl ?_
  refine zz_iload_n C 0 ddP_init_15 rfl rfl ?_
  refine zz_bipush (v := 40) C ddP_init_16 (by decide) ?_
  refine zz_icmp_ge (tgt := 41) C ddP_init_18 rfl (fun hc => absurd hc (by decide)) (fun hc => ?_)
  refine zz_aload_n C 1 ddP_init_21 rfl rfl ?_
  obtain ⟨h117, h⟩ := gdN h
  obtain ⟨h118, h⟩ := gdN h
  refine zz_getr C ddP_init_22 fl_P_11 rfl h117 (of_decide_eq_true h118) ?_
  refine zz_iload_n C 0 ddP_init_25 rfl rfl ?_
  obtain ⟨q119, hq119, h⟩ := bindN h
  refine zz_new C ddP_init_26 (t := 1) rfl rfl ⟨wd_207, wd_119, wd_6⟩ hg hq119 ⟨by rw [hR]; exact Nat.le_of_ble_eq_true rfl, by rw [hR]; exact Nat.le_of_ble_eq_true rfl⟩ ?_
  refine zz_kn (k1 := 344) (n1 := 32710) (by decide) (by decide) ?_
  refine zz_dup C ddP_init_29 rfl ?_
  refine zz_aload_n C 2 ddP_init_30 rfl rfl ?_
  obtain ⟨q120, hq120, h⟩ := bindN h
  refine zz_callI (As := [.ref v1]) C ddP_init_31 wd_209 my_H_init ⟨rfl, mi_H_init⟩ (xH_init hG hg (d - 1) (by omega) hq120) (by omega) rfl rfl (Nat.le_of_ble_eq_true rfl) ⟨by rw [hR]; exact Nat.le_of_ble_eq_true rfl, by rw [hR]; exact Nat.le_of_ble_eq_true rfl⟩ ?_
  refine zz_kn (k1 := 361) (n1 := 34420) (by decide) (by decide) ?_
  obtain ⟨h121, h⟩ := gdN h
  obtain ⟨h122, h⟩ := gdN h
  refine zz_aastore (t := 103) (tc := 1) C ddP_init_34 rfl (by decide) (fun _ => rfl) h121 h122 ?_
  refine zz_iinc (v := 20) (L1 := [(2, .int 20), (0, .ref v0), (1, .ref v1)]) C 0 ddP_init_35 rfl (by decide) N (by decide) rfl ?_
  refine zz_goto (tgt := 15) C ddP_init_38 rfl ?_
  refine zz_iload_n C 0 ddP_init_15 rfl rfl ?_
  refine zz_bipush (v := 40) C ddP_init_16 (by decide) ?_
  refine zz_icmp_ge (tgt := 41) C ddP_init_18 rfl (fun hc => absurd hc (by decide)) (fun hc => ?_)
  refine zz_aload_n C 1 ddP_init_21 rfl rfl ?_
  obtain ⟨h123, h⟩ := gdN h
  obtain ⟨h124, h⟩ := gdN h
  refine zz_getr C ddP_init_22 fl_P_11 rfl h123 (of_decide_eq_true h124) ?_
  refine zz_iload_n C 0 ddP_init_25 rfl rfl ?_
  obtain ⟨q125, hq125, h⟩ := bindN h
  refine zz_new C ddP_init_26 (t := 1) rfl rfl ⟨wd_207, wd_119, wd_6⟩ hg hq125 ⟨by rw [hR]; exact Nat.le_of_ble_eq_true rfl, by rw [hR]; exact Nat.le_of_ble_eq_true rfl⟩ ?_
  refine zz_kn (k1 := 362) (n1 := 34429) (by decide) (by decide) ?_
  refine zz_dup C ddP_init_29 rfl ?_
  refine zz_aload_n C 2 ddP_init_30 rfl rfl ?_
  obtain ⟨q126, hq126, h⟩ := bindN h
  refine zz_callI (As := [.ref v1]) C ddP_init_31 wd_209 my_H_init ⟨rfl, mi_H_init⟩ (xH_init hG hg (d - 1) (by omega) hq126) (by omega) rfl rfl (Nat.le_of_ble_eq_true rfl) ⟨by rw [hR]; exact Nat.le_of_ble_eq_true rfl, by rw [hR]; exact Nat.le_of_ble_eq_true rfl⟩ ?_
  refine zz_kn (k1 := 379) (n1 := 36139) (by decide) (by decide) ?_
  obtain ⟨h127, h⟩ := gdN h
  obtain ⟨h128, h⟩ := gdN h
  refine zz_aastore (t := 103) (tc := 1) C ddP_init_34 rfl (by decide) (fun _ => rfl) h127 h128 ?_
  refine zz_iinc (v := 21) (L1 := [(2, .int 21), (0, .ref v0), (1, .ref v1)]) C 0 ddP_init_35 rfl (by decide) N (by decide) rfl ?_
  refine zz_goto (tgt := 15) C ddP_init_38 rfl ?_
  refine zz_iload_n C 0 ddP_init_15 rfl rfl ?_
  refine zz_bipush (v := 40) C ddP_init_16 (by decide) ?_
  refine zz_icmp_ge (tgt := 41) C ddP_init_18 rfl (fun hc => absurd hc (by decide)) (fun hc => ?_)
  refine zz_aload_n C 1 ddP_init_21 rfl rfl ?_
  obtain ⟨h129, h⟩ := gdN h
  obtain ⟨h130, h⟩ := gdN h
  refine zz_getr C ddP_init_22 fl_P_11 rfl h129 (of_decide_eq_true h130) ?_
  refine zz_iload_n C 0 ddP_init_25 rfl rfl ?_
  obtain ⟨q131, hq131, h⟩ := bindN h
  refine zz_new C ddP_init_26 (t := 1) rfl rfl ⟨wd_207, wd_119, wd_6⟩ hg hq131 ⟨by rw [hR]; exact Nat.le_of_ble_eq_true rfl, by rw [hR]; exact Nat.le_of_ble_eq_true rfl⟩ ?_
  refine zz_kn (k1 := 380) (n1 := 36148) (by decide) (by decide) ?_
  refine zz_dup C ddP_init_29 rfl ?_
  refine zz_aload_n C 2 ddP_init_30 rfl rfl ?_
  obtain ⟨q132, hq132, h⟩ := bindN h
  refine zz_callI (As := [.ref v1]) C ddP_init_31 wd_209 my_H_init ⟨rfl, mi_H_init⟩ (xH_init hG hg (d - 1) (by omega) hq132) (by omega) rfl rfl (Nat.le_of_ble_eq_true rfl) ⟨by rw [hR]; exact Nat.le_of_ble_eq_true rfl, by rw [hR]; exact Nat.le_of_ble_eq_true rfl⟩ ?_
  refine zz_kn (k1 := 397) (n1 := 37858) (by decide) (by decide) ?_
  obtain ⟨h133, h⟩ := gdN h
  obtain ⟨h134, h⟩ := gdN h
  refine zz_aastore (t := 103) (tc := 1) C ddP_init_34 rfl (by decide) (fun _ => rfl) h133 h134 ?_
  refine zz_iinc (v := 22) (L1 := [(2, .int 22), (0, .ref v0), (1, .ref v1)]) C 0 ddP_init_35 rfl (by decide) N (by decide) rfl ?_
  refine zz_goto (tgt := 15) C ddP_init_38 rfl ?_
  refine zz_iload_n C 0 ddP_init_15 rfl rfl ?_
  refine zz_bipush (v := 40) C ddP_init_16 (by decide) ?_
  refine zz_icmp_ge (tgt := 41) C ddP_init_18 rfl (fun hc => absurd hc (by decide)) (fun hc => ?_)
  refine zz_aload_n C 1 ddP_init_21 rfl rfl ?_
  obtain ⟨h135, h⟩ := gdN h
  obtain ⟨h136, h⟩ := gdN h
  refine zz_getr C ddP_init_22 fl_P_11 rfl h135 (of_decide_eq_true h136) ?_
  refine zz_iload_n C 0 ddP_init_25 rfl rfl ?_
  obtain ⟨q137, hq137, h⟩ := bindN h
  refine zz_new C ddP_init_26 (t := 1) rfl rfl ⟨wd_207, wd_119, wd_6⟩ hg hq137 ⟨by rw [hR]; exact Nat.le_of_ble_eq_true rfl, by rw [hR]; exact Nat.le_of_ble_eq_true rfl⟩ ?_
  refine zz_kn (k1 := 398) (n1 := 37867) (by decide) (by decide) ?_
  refine zz_dup C ddP_init_29 rfl ?_
  refine zz_aload_n C 2 ddP_init_30 rfl rfl ?_
  obtain ⟨q138, hq138, h⟩ := bindN h
  refine zz_callI (As := [.ref v1]) C ddP_init_31 wd_209 my_H_init ⟨rfl, mi_H_init⟩ (xH_init hG hg (d - 1) (by omega) hq138) (by omega) rfl rfl (Nat.le_of_ble_eq_true rfl) ⟨by rw [hR]; exact Nat.le_of_ble_eq_true rfl, by rw [hR]; exact Nat.le_of_ble_eq_true rfl⟩ ?_
  refine zz_kn (k1 := 415) (n1 := 39577) (by decide) (by decide) ?_
  obtain ⟨h139, h⟩ := gdN h
  obtain ⟨h140, h⟩ := gdN h
  refine zz_aastore (t := 103) (tc := 1) C ddP_init_34 rfl (by decide) (fun _ => rfl) h139 h140 ?_
  refine zz_iinc (v := 23) (L1 := [(2, .int 23), (0, .ref v0), (1, .ref v1)]) C 0 ddP_init_35 rfl (by decide) N (by decide) rfl ?_
  refine zz_goto (tgt := 15) C ddP_init_38 rfl ?_
  refine zz_iload_n C 0 ddP_init_15 rfl rfl ?_
  refine zz_bipush (v := 40) C ddP_init_16 (by decide) ?_
  refine zz_icmp_ge (tgt := 41) C ddP_init_18 rfl (fun hc => absurd hc (by decide)) (fun hc => ?_)
  refine zz_aload_n C 1 ddP_init_21 rfl rfl ?_
  obtain ⟨h141, h⟩ := gdN h
  obtain ⟨h142, h⟩ := gdN h
  refine zz_getr C ddP_init_22 fl_P_11 rfl h141 (of_decide_eq_true h142) ?_
  refine zz_iload_n C 0 ddP_init_25 rfl rfl ?_
  obtain ⟨q143, hq143, h⟩ := bindN h
  refine zz_new C ddP_init_26 (t := 1) rfl rfl ⟨wd_207, wd_119, wd_6⟩ hg hq143 ⟨by rw [hR]; exact Nat.le_of_ble_eq_true rfl, by rw [hR]; exact Nat.le_of_ble_eq_true rfl⟩ ?_
  refine zz_kn (k1 := 416) (n1 := 39586) (by decide) (by decide) ?_
  refine zz_dup C ddP_init_29 rfl ?_
  refine zz_aload_n C 2 ddP_init_30 rfl rfl ?_
  obtain ⟨q144, hq144, h⟩ := bindN h
  refine zz_callI (As := [.ref v1]) C ddP_init_31 wd_209 my_H_init ⟨rfl, mi_H_init⟩ (xH_init hG hg (d - 1) (by omega) hq144) (by omega) rfl rfl (Nat.le_of_ble_eq_true rfl) ⟨by rw [hR]; exact Nat.le_of_ble_eq_true rfl, by rw [hR]; exact Nat.le_of_ble_eq_true rfl⟩ ?_
  refine zz_kn (k1 := 433) (n1 := 41296) (by decide) (by decide) ?_
  obtain ⟨h145, h⟩ := gdN h
  obtain ⟨h146, h⟩ := gdN h
  refine zz_aastore (t := 103) (tc := 1) C ddP_init_34 rfl (by decide) (fun _ => rfl) h145 h146 ?_
  refine zz_iinc (v := 24) (L1 := [(2, .int 24), (0, .ref v0), (1, .ref v1)]) C 0 ddP_init_35 rfl (by decide) N (by decide) rfl ?_
  refine zz_goto (tgt := 15) C ddP_init_38 rfl ?_
  refine zz_iload_n C 0 ddP_init_15 rfl rfl ?_
  refine zz_bipush (v := 40) C ddP_init_16 (by decide) ?_
  refine zz_icmp_ge (tgt := 41) C ddP_init_18 rfl (fun hc => absurd hc (by decide)) (fun hc => ?_)
  refine zz_aload_n C 1 ddP_init_21 rfl rfl ?_
  obtain ⟨h147, h⟩ := gdN h
  obtain ⟨h148, h⟩ := gdN h
  refine zz_getr C ddP_init_22 fl_P_11 rfl h147 (of_decide_eq_true h148) ?_
  refine zz_iload_n C 0 ddP_init_25 rfl rfl ?_
  obtain ⟨q149, hq149, h⟩ := bindN h
  refine zz_new C ddP_init_26 (t := 1) rfl rfl ⟨wd_207, wd_119, wd_6⟩ hg hq149 ⟨by rw [hR]; exact Nat.le_of_ble_eq_true rfl, by rw [hR]; exact Nat.le_of_ble_eq_true rfl⟩ ?_
  refine zz_kn (k1 := 434) (n1 := 41305) (by decide) (by decide) ?_
  refine zz_dup C ddP_init_29 rfl ?_
  refine zz_aload_n C 2 ddP_init_30 rfl rfl ?_
  obtain ⟨q150, hq150, h⟩ := bindN h
  refine zz_callI (As := [.ref v1]) C ddP_init_31 wd_209 my_H_init ⟨rfl, mi_H_init⟩ (xH_init hG hg (d - 1) (by omega) hq150) (by omega) rfl rfl (Nat.le_of_ble_eq_true rfl) ⟨by rw [hR]; exact Nat.le_of_ble_eq_true rfl, by rw [hR]; exact Nat.le_of_ble_eq_true rfl⟩ ?_
  refine zz_kn (k1 := 451) (n1 := 43015) (by decide) (by decide) ?_
  obtain ⟨h151, h⟩ := gdN h
  obtain ⟨h152, h⟩ := gdN h
  refine zz_aastore (t := 103) (tc := 1) C ddP_init_34 rfl (by decide) (fun _ => rfl) h151 h152 ?_
  refine zz_iinc (v := 25) (L1 := [(2, .int 25), (0, .ref v0), (1, .ref v1)]) C 0 ddP_init_35 rfl (by decide) N (by decide) rfl ?_
  refine zz_goto (tgt := 15) C ddP_init_38 rfl ?_
  refine zz_iload_n C 0 ddP_init_15 rfl rfl ?_
  refine zz_bipush (v := 40) C ddP_init_16 (by decide) ?_
  refine zz_icmp_ge (tgt := 41) C ddP_init_18 rfl (fun hc => absurd hc (by decide)) (fun hc => ?_)
  refine zz_aload_n C 1 ddP_init_21 rfl rfl ?_
  obtain ⟨h153, h⟩ := gdN h
  obtain ⟨h154, h⟩ := gdN h
  refine zz_getr C ddP_init_22 fl_P_11 rfl h153 (of_decide_eq_true h154) ?_
  refine zz_iload_n C 0 ddP_init_25 rfl rfl ?_
  obtain ⟨q155, hq155, h⟩ := bindN h
  refine zz_new C ddP_init_26 (t := 1) rfl rfl ⟨wd_207, wd_119, wd_6⟩ hg hq155 ⟨by rw [hR]; exact Nat.le_of_ble_eq_true rfl, by rw [hR]; exact Nat.le_of_ble_eq_true rfl⟩ ?_
  refine zz_kn (k1 := 452) (n1 := 43024) (by decide) (by decide) ?_
  refine zz_dup C ddP_init_29 rfl ?_
  refine zz_aload_n C 2 ddP_init_30 rfl rfl ?_
  obtain ⟨q156, hq156, h⟩ := bindN h
  refine zz_callI (As := [.ref v1]) C ddP_init_31 wd_209 my_H_init ⟨rfl, mi_H_init⟩ (xH_init hG hg (d - 1) (by omega) hq156) (by omega) rfl rfl (Nat.le_of_ble_eq_true rfl) ⟨by rw [hR]; exact Nat.le_of_ble_eq_true rfl, by rw [hR]; exact Nat.le_of_ble_eq_true rfl⟩ ?_
  refine zz_kn (k1 := 469) (n1 := 44734) (by decide) (by decide) ?_
  obtain ⟨h157, h⟩ := gdN h
  obtain ⟨h158, h⟩ := gdN h
  refine zz_aastore (t := 103) (tc := 1) C ddP_init_34 rfl (by decide) (fun _ => rfl) h157 h158 ?_
  refine zz_iinc (v := 26) (L1 := [(2, .int 26), (0, .ref v0), (1, .ref v1)]) C 0 ddP_init_35 rfl (by decide) N (by decide) rfl ?_
  refine zz_goto (tgt := 15) C ddP_init_38 rfl ?_
  refine zz_iload_n C 0 ddP_init_15 rfl rfl ?_
  refine zz_bipush (v := 40) C ddP_init_16 (by decide) ?_
  refine zz_icmp_ge (tgt := 41) C ddP_init_18 rfl (fun hc => absurd hc (by decide)) (fun hc => ?_)
  refine zz_aload_n C 1 ddP_init_21 rfl rfl ?_
  obtain ⟨h159, h⟩ := gdN h
  obtain ⟨h160, h⟩ := gdN h
  refine zz_getr C ddP_init_22 fl_P_11 rfl h159 (of_decide_eq_true h160) ?_
  refine zz_iload_n C 0 ddP_init_25 rfl rfl ?_
  obtain ⟨q161, hq161, h⟩ := bindN h
  refine zz_new C ddP_init_26 (t := 1) rfl rfl ⟨wd_207, wd_119, wd_6⟩ hg hq161 ⟨by rw [hR]; exact Nat.le_of_ble_eq_true rfl, by rw [hR]; exact Nat.le_of_ble_eq_true rfl⟩ ?_
  refine zz_kn (k1 := 470) (n1 := 44743) (by decide) (by decide) ?_
  refine zz_dup C ddP_init_29 rfl ?_
  refine zz_aload_n C 2 ddP_init_30 rfl rfl ?_
  obtain ⟨q162, hq162, h⟩ := bindN h
  refine zz_callI (As := [.ref v1]) C ddP_init_31 wd_209 my_H_init ⟨rfl, mi_H_init⟩ (xH_init hG hg (d - 1) (by omega) hq162) (by omega) rfl rfl (Nat.le_of_ble_eq_true rfl) ⟨by rw [hR]; exact Nat.le_of_ble_eq_true rfl, by rw [hR]; exact Nat.le_of_ble_eq_true rfl⟩ ?_
  refine zz_kn (k1 := 487) (n1 := 46453) (by decide) (by decide) ?_
  obtain ⟨h163, h⟩ := gdN h
  obtain ⟨h164, h⟩ := gdN h
  refine zz_aastore (t := 103) (tc := 1) C ddP_init_34 rfl (by decide) (fun _ => rfl) h163 h164 ?_
  refine zz_iinc (v := 27) (L1 := [(2, .int 27), (0, .ref v0), (1, .ref v1)]) C 0 ddP_init_35 rfl (by decide) N (by decide) rfl ?_
  refine zz_goto (tgt := 15) C ddP_init_38 rfl ?_
  refine zz_iload_n C 0 ddP_init_15 rfl rfl ?_
  refine zz_bipush (v := 40) C ddP_init_16 (by decide) ?_
  refine zz_icmp_ge (tgt := 41) C ddP_init_18 rfl (fun hc => absurd hc (by decide)) (fun hc => ?_)
  refine zz_aload_n C 1 ddP_init_21 rfl rfl ?_
  obtain ⟨h165, h⟩ := gdN h
  obtain ⟨h166, h⟩ := gdN h
  refine zz_getr C ddP_init_22 fl_P_11 rfl h165 (of_decide_eq_true h166) ?_
  refine zz_iload_n C 0 ddP_init_25 rfl rfl ?_
  obtain ⟨q167, hq167, h⟩ := bindN h
  refine zz_new C ddP_init_26 (t := 1) rfl rfl ⟨wd_207, wd_119, wd_6⟩ hg hq167 ⟨by rw [hR]; exact Nat.le_of_ble_eq_true rfl, by rw [hR]; exact Nat.le_of_ble_eq_true rfl⟩ ?_
  refine zz_kn (k1 := 488) (n1 := 46462) (by decide) (by decide) ?_
  refine zz_dup C ddP_init_29 rfl ?_
  refine zz_aload_n C 2 ddP_init_30 rfl rfl ?_
  obtain ⟨q168, hq168, h⟩ := bindN h
  refine zz_callI (As := [.ref v1]) C ddP_init_31 wd_209 my_H_init ⟨rfl, mi_H_init⟩ (xH_init hG hg (d - 1) (by omega) hq168) (by omega) rfl rfl (Nat.le_of_ble_eq_true rfl) ⟨by rw [hR]; exact Nat.le_of_ble_eq_true rfl, by rw [hR]; exact Nat.le_of_ble_eq_true rfl⟩ ?_
  refine zz_kn (k1 := 505) (n1 := 48172) (by decide) (by decide) ?_
  obtain ⟨h169, h⟩ := gdN h
  obtain ⟨h170, h⟩ := gdN h
  refine zz_aastore (t := 103) (tc := 1) C ddP_init_34 rfl (by decide) (fun _ => rfl) h169 h170 ?_
  refine zz_iinc (v := 28) (L1 := [(2, .int 28), (0, .ref v0), (1, .ref v1)]) C 0 ddP_init_35 rfl (by decide) N (by decide) rfl ?_
  refine zz_goto (tgt := 15) C ddP_init_38 rfl ?_
  refine zz_iload_n C 0 ddP_init_15 rfl rfl ?_
  refine zz_bipush (v := 40) C ddP_init_16 (by decide) ?_
  refine zz_icmp_ge (tgt := 41) C ddP_init_18 rfl (fun hc => absurd hc (by decide)) (fun hc => ?_)
  refine zz_aload_n C 1 ddP_init_21 rfl rfl ?_
  obtain ⟨h171, h⟩ := gdN h
  obtain ⟨h172, h⟩ := gdN h
  refine zz_getr C ddP_init_22 fl_P_11 rfl h171 (of_decide_eq_true h172) ?_
  refine zz_iload_n C 0 ddP_init_25 rfl rfl ?_
  obtain ⟨q173, hq173, h⟩ := bindN h
  refine zz_new C ddP_init_26 (t := 1) rfl rfl ⟨wd_207, wd_119, wd_6⟩ hg hq173 ⟨by rw [hR]; exact Nat.le_of_ble_eq_true rfl, by rw [hR]; exact Nat.le_of_ble_eq_true rfl⟩ ?_
  refine zz_kn (k1 := 506) (n1 := 48181) (by decide) (by decide) ?_
  refine zz_dup C ddP_init_29 rfl ?_
  refine zz_aload_n C 2 ddP_init_30 rfl rfl ?_
  obtain ⟨q174, hq174, h⟩ := bindN h
  refine zz_callI (As := [.ref v1]) C ddP_init_31 wd_209 my_H_init ⟨rfl, mi_H_init⟩ (xH_init hG hg (d - 1) (by omega) hq174) (by omega) rfl rfl (Nat.le_of_ble_eq_true rfl) ⟨by rw [hR]; exact Nat.le_of_ble_eq_true rfl, by rw [hR]; exact Nat.le_of_ble_eq_true rfl⟩ ?_
  refine zz_kn (k1 := 523) (n1 := 49891) (by decide) (by decide) ?_
  obtain ⟨h175, h⟩ := gdN h
  obtain ⟨h176, h⟩ := gdN h
  refine zz_aastore (t := 103) (tc := 1) C ddP_init_34 rfl (by decide) (fun _ => rfl) h175 h176 ?_
  refine zz_iinc (v := 29) (L1 := [(2, .int 29), (0, .ref v0), (1, .ref v1)]) C 0 ddP_init_35 rfl (by decide) N (by decide) rfl ?_
  refine zz_goto (tgt := 15) C ddP_init_38 rfl ?_
  refine zz_iload_n C 0 ddP_init_15 rfl rfl ?_
  refine zz_bipush (v := 40) C ddP_init_16 (by decide) ?_
  refine zz_icmp_ge (tgt := 41) C ddP_init_18 rfl (fun hc => absurd hc (by decide)) (fun hc => ?_)
  refine zz_aload_n C 1 ddP_init_21 rfl rfl ?_
  obtain ⟨h177, h⟩ := gdN h
  obtain ⟨h178, h⟩ := gdN h
  refine zz_getr C ddP_init_22 fl_P_11 rfl h177 (of_decide_eq_true h178) ?_
  refine zz_iload_n C 0 ddP_init_25 rfl rfl ?_
  obtain ⟨q179, hq179, h⟩ := bindN h
  refine zz_new C ddP_init_26 (t := 1) rfl rfl ⟨wd_207, wd_119, wd_6⟩ hg hq179 ⟨by rw [hR]; exact Nat.le_of_ble_eq_true rfl, by rw [hR]; exact Nat.le_of_ble_eq_true rfl⟩ ?_
  refine zz_kn (k1 := 524) (n1 := 49900) (by decide) (by decide) ?_
  refine zz_dup C ddP_init_29 rfl ?_
  refine zz_aload_n C 2 ddP_init_30 rfl rfl ?_
  obtain ⟨q180, hq180, h⟩ := bindN h
  refine zz_callI (As := [.ref v1]) C ddP_init_31 wd_209 my_H_init ⟨rfl, mi_H_init⟩ (xH_init hG hg (d - 1) (by omega) hq180) (by omega) rfl rfl (Nat.le_of_ble_eq_true rfl) ⟨by rw [hR]; exact Nat.le_of_ble_eq_true rfl, by rw [hR]; exact Nat.le_of_ble_eq_true rfl⟩ ?_
  refine zz_kn (k1 := 541) (n1 := 51610) (by decide) (by decide) ?_
  obtain ⟨h181, h⟩ := gdN h
  obtain ⟨h182, h⟩ := gdN h
  refine zz_aastore (t := 103) (tc := 1) C ddP_init_34 rfl (by decide) (fun _ => rfl) h181 h182 ?_
  refine zz_iinc (v := 30) (L1 := [(2, .int 30), (0, .ref v0), (1, .ref v1)]) C 0 ddP_init_35 rfl (by decide) N (by decide) rfl ?_
  refine zz_goto (tgt := 15) C ddP_init_38 rfl ?_
  refine zz_iload_n C 0 ddP_init_15 rfl rfl ?_
  refine zz_bipush (v := 40) C ddP_init_16 (by decide) ?_
  refine zz_icmp_ge (tgt := 41) C ddP_init_18 rfl (fun hc => absurd hc (by decide)) (fun hc => ?_)
  refine zz_aload_n C 1 ddP_init_21 rfl rfl ?_
  obtain ⟨h183, h⟩ := gdN h
  obtain ⟨h184, h⟩ := gdN h
  refine zz_getr C ddP_init_22 fl_P_11 rfl h183 (of_decide_eq_true h184) ?_
  refine zz_iload_n C 0 ddP_init_25 rfl rfl ?_
  obtain ⟨q185, hq185, h⟩ := bindN h
  refine zz_new C ddP_init_26 (t := 1) rfl rfl ⟨wd_207, wd_119, wd_6⟩ hg hq185 ⟨by rw [hR]; exact Nat.le_of_ble_eq_true rfl, by rw [hR]; exact Nat.le_of_ble_eq_true rfl⟩ ?_
  refine zz_kn (k1 := 542) (n1 := 51619) (by decide) (by decide) ?_
  refine zz_dup C ddP_init_29 rfl ?_
  refine zz_aload_n C 2 ddP_init_30 rfl rfl ?_
  obtain ⟨q186, hq186, h⟩ := bindN h
  refine zz_callI (As := [.ref v1]) C ddP_init_31 wd_209 my_H_init ⟨rfl, mi_H_init⟩ (xH_init hG hg (d - 1) (by omega) hq186) (by omega) rfl rfl (Nat.le_of_ble_eq_true rfl) ⟨by rw [hR]; exact Nat.le_of_ble_eq_true rfl, by rw [hR]; exact Nat.le_of_ble_eq_true rfl⟩ ?_
  refine zz_kn (k1 := 559) (n1 := 53329) (by decide) (by decide) ?_
  obtain ⟨h187, h⟩ := gdN h
  obtain ⟨h188, h⟩ := gdN h
  refine zz_aastore (t := 103) (tc := 1) C ddP_init_34 rfl (by decide) (fun _ => rfl) h187 h188 ?_
  refine zz_iinc (v := 31) (L1 := [(2, .int 31), (0, .ref v0), (1, .ref v1)]) C 0 ddP_init_35 rfl (by decide) N (by decide) rfl ?_
  refine zz_goto (tgt := 15) C ddP_init_38 rfl ?_
  refine zz_iload_n C 0 ddP_init_15 rfl rfl ?_
  refine zz_bipush (v := 40) C ddP_init_16 (by decide) ?_
  refine zz_icmp_ge (tgt := 41) C ddP_init_18 rfl (fun hc => absurd hc (by decide)) (fun hc => ?_)
  refine zz_aload_n C 1 ddP_init_21 rfl rfl ?_
  obtain ⟨h189, h⟩ := gdN h
  obtain ⟨h190, h⟩ := gdN h
  refine zz_getr C ddP_init_22 fl_P_11 rfl h189 (of_decide_eq_true h190) ?_
  refine zz_iload_n C 0 ddP_init_25 rfl rfl ?_
  obtain ⟨q191, hq191, h⟩ := bindN h
  refine zz_new C ddP_init_26 (t := 1) rfl rfl ⟨wd_207, wd_119, wd_6⟩ hg hq191 ⟨by rw [hR]; exact Nat.le_of_ble_eq_true rfl, by rw [hR]; exact Nat.le_of_ble_eq_true rfl⟩ ?_
  refine zz_kn (k1 := 560) (n1 := 53338) (by decide) (by decide) ?_
  refine zz_dup C ddP_init_29 rfl ?_
  refine zz_aload_n C 2 ddP_init_30 rfl rfl ?_
  obtain ⟨q192, hq192, h⟩ := bindN h
  refine zz_callI (As := [.ref v1]) C ddP_init_31 wd_209 my_H_init ⟨rfl, mi_H_init⟩ (xH_init hG hg (d - 1) (by omega) hq192) (by omega) rfl rfl (Nat.le_of_ble_eq_true rfl) ⟨by rw [hR]; exact Nat.le_of_ble_eq_true rfl, by rw [hR]; exact Nat.le_of_ble_eq_true rfl⟩ ?_
  refine zz_kn (k1 := 577) (n1 := 55048) (by decide) (by decide) ?_
  obtain ⟨h193, h⟩ := gdN h
  obtain ⟨h194, h⟩ := gdN h
  refine zz_aastore (t := 103) (tc := 1) C ddP_init_34 rfl (by decide) (fun _ => rfl) h193 h194 ?_
  refine zz_iinc (v := 32) (L1 := [(2, .int 32), (0, .ref v0), (1, .ref v1)]) C 0 ddP_init_35 rfl (by decide) N (by decide) rfl ?_
  refine zz_goto (tgt := 15) C ddP_init_38 rfl ?_
  refine zz_iload_n C 0 ddP_init_15 rfl rfl ?_
  refine zz_bipush (v := 40) C ddP_init_16 (by decide) ?_
  refine zz_icmp_ge (tgt := 41) C ddP_init_18 rfl (fun hc => absurd hc (by decide)) (fun hc => ?_)
  refine zz_aload_n C 1 ddP_init_21 rfl rfl ?_
  obtain ⟨h195, h⟩ := gdN h
  obtain ⟨h196, h⟩ := gdN h
  refine zz_getr C ddP_init_22 fl_P_11 rfl h195 (of_decide_eq_true h196) ?_
  refine zz_iload_n C 0 ddP_init_25 rfl rfl ?_
  obtain ⟨q197, hq197, h⟩ := bindN h
  refine zz_new C ddP_init_26 (t := 1) rfl rfl ⟨wd_207, wd_119, wd_6⟩ hg hq197 ⟨by rw [hR]; exact Nat.le_of_ble_eq_true rfl, by rw [hR]; exact Nat.le_of_ble_eq_true rfl⟩ ?_
  refine zz_kn (k1 := 578) (n1 := 55057) (by decide) (by decide) ?_
  refine zz_dup C ddP_init_29 rfl ?_
  refine zz_aload_n C 2 ddP_init_30 rfl rfl ?_
  obtain ⟨q198, hq198, h⟩ := bindN h
  refine zz_callI (As := [.ref v1]) C ddP_init_31 wd_209 my_H_init ⟨rfl, mi_H_init⟩ (xH_init hG hg (d - 1) (by omega) hq198) (by omega) rfl rfl (Nat.le_of_ble_eq_true rfl) ⟨by rw [hR]; exact Nat.le_of_ble_eq_true rfl, by rw [hR]; exact Nat.le_of_ble_eq_true rfl⟩ ?_
  refine zz_kn (k1 := 595) (n1 := 56767) (by decide) (by decide) ?_
  obtain ⟨h199, h⟩ := gdN h
  obtain ⟨h200, h⟩ := gdN h
  refine zz_aastore (t := 103) (tc := 1) C ddP_init_34 rfl (by decide) (fun _ => rfl) h199 h200 ?_
  refine zz_iinc (v := 33) (L1 := [(2, .int 33), (0, .ref v0), (1, .ref v1)]) C 0 ddP_init_35 rfl (by decide) N (by decide) rfl ?_
  refine zz_goto (tgt := 15) C ddP_init_38 rfl ?_
  refine zz_iload_n C 0 ddP_init_15 rfl rfl ?_
  refine zz_bipush (v := 40) C ddP_init_16 (by decide) ?_
  refine zz_icmp_ge (tgt := 41) C ddP_init_18 rfl (fun hc => absurd hc (by decide)) (fun hc => ?_)
  refine zz_aload_n C 1 ddP_init_21 rfl rfl ?_
  obtain ⟨h201, h⟩ := gdN h
  obtain ⟨h202, h⟩ := gdN h
  refine zz_getr C ddP_init_22 fl_P_11 rfl h201 (of_decide_eq_true h202) ?_
  refine zz_iload_n C 0 ddP_init_25 rfl rfl ?_
  obtain ⟨q203, hq203, h⟩ := bindN h
  refine zz_new C ddP_init_26 (t := 1) rfl rfl ⟨wd_207, wd_119, wd_6⟩ hg hq203 ⟨by rw [hR]; exact Nat.le_of_ble_eq_true rfl, by rw [hR]; exact Nat.le_of_ble_eq_true rfl⟩ ?_
  refine zz_kn (k1 := 596) (n1 := 56776) (by decide) (by decide) ?_
  refine zz_dup C ddP_init_29 rfl ?_
  refine zz_aload_n C 2 ddP_init_30 rfl rfl ?_
  obtain ⟨q204, hq204, h⟩ := bindN h
  refine zz_callI (As := [.ref v1]) C ddP_init_31 wd_209 my_H_init ⟨rfl, mi_H_init⟩ (xH_init hG hg (d - 1) (by omega) hq204) (by omega) rfl rfl (Nat.le_of_ble_eq_true rfl) ⟨by rw [hR]; exact Nat.le_of_ble_eq_true rfl, by rw [hR]; exact Nat.le_of_ble_eq_true rfl⟩ ?_
  refine zz_kn (k1 := 613) (n1 := 58486) (by decide) (by decide) ?_
  obtain ⟨h205, h⟩ := gdN h
  obtain ⟨h206, h⟩ := gdN h
  refine zz_aastore (t := 103) (tc := 1) C ddP_init_34 rfl (by decide) (fun _ => rfl) h205 h206 ?_
  refine zz_iinc (v := 34) (L1 := [(2, .int 34), (0, .ref v0), (1, .ref v1)]) C 0 ddP_init_35 rfl (by decide) N (by decide) rfl ?_
  refine zz_goto (tgt := 15) C ddP_init_38 rfl ?_
  refine zz_iload_n C 0 ddP_init_15 rfl rfl ?_
  refine zz_bipush (v := 40) C ddP_init_16 (by decide) ?_
  refine zz_icmp_ge (tgt := 41) C ddP_init_18 rfl (fun hc => absurd hc (by decide)) (fun hc => ?_)
  refine zz_aload_n C 1 ddP_init_21 rfl rfl ?_
  obtain ⟨h207, h⟩ := gdN h
  obtain ⟨h208, h⟩ := gdN h
  refine zz_getr C ddP_init_22 fl_P_11 rfl h207 (of_decide_eq_true h208) ?_
  refine zz_iload_n C 0 ddP_init_25 rfl rfl ?_
  obtain ⟨q209, hq209, h⟩ := bindN h
  refine zz_new C ddP_init_26 (t := 1) rfl rfl ⟨wd_207, wd_119, wd_6⟩ hg hq209 ⟨by rw [hR]; exact Nat.le_of_ble_eq_true rfl, by rw [hR]; exact Nat.le_of_ble_eq_true rfl⟩ ?_
  refine zz_kn (k1 := 614) (n1 := 58495) (by decide) (by decide) ?_
  refine zz_dup C ddP_init_29 rfl ?_
  refine zz_aload_n C 2 ddP_init_30 rfl rfl ?_
  obtain ⟨q210, hq210, h⟩ := bindN h
  refine zz_callI (As := [.ref v1]) C ddP_init_31 wd_209 my_H_init ⟨rfl, mi_H_init⟩ (xH_init hG hg (d - 1) (by omega) hq210) (by omega) rfl rfl (Nat.le_of_ble_eq_true rfl) ⟨by rw [hR]; exact Nat.le_of_ble_eq_true rfl, by rw [hR]; exact Nat.le_of_ble_eq_true rfl⟩ ?_
  refine zz_kn (k1 := 631) (n1 := 60205) (by decide) (by decide) ?_
  obtain ⟨h211, h⟩ := gdN h
  obtain ⟨h212, h⟩ := gdN h
  refine zz_aastore (t := 103) (tc := 1) C ddP_init_34 rfl (by decide) (fun _ => rfl) h211 h212 ?_
  refine zz_iinc (v := 35) (L1 := [(2, .int 35), (0, .ref v0), (1, .ref v1)]) C 0 ddP_init_35 rfl (by decide) N (by decide) rfl ?_
  refine zz_goto (tgt := 15) C ddP_init_38 rfl ?_
  refine zz_iload_n C 0 ddP_init_15 rfl rfl ?_
  refine zz_bipush (v := 40) C ddP_init_16 (by decide) ?_
  refine zz_icmp_ge (tgt := 41) C ddP_init_18 rfl (fun hc => absurd hc (by decide)) (fun hc => ?_)
  refine zz_aload_n C 1 ddP_init_21 rfl rfl ?_
  obtain ⟨h213, h⟩ := gdN h
  obtain ⟨h214, h⟩ := gdN h
  refine zz_getr C ddP_init_22 fl_P_11 rfl h213 (of_decide_eq_true h214) ?_
  refine zz_iload_n C 0 ddP_init_25 rfl rfl ?_
  obtain ⟨q215, hq215, h⟩ := bindN h
  refine zz_new C ddP_init_26 (t := 1) rfl rfl ⟨wd_207, wd_119, wd_6⟩ hg hq215 ⟨by rw [hR]; exact Nat.le_of_ble_eq_true rfl, by rw [hR]; exact Nat.le_of_ble_eq_true rfl⟩ ?_
  refine zz_kn (k1 := 632) (n1 := 60214) (by decide) (by decide) ?_
  refine zz_dup C ddP_init_29 rfl ?_
  refine zz_aload_n C 2 ddP_init_30 rfl rfl ?_
  obtain ⟨q216, hq216, h⟩ := bindN h
  refine zz_callI (As := [.ref v1]) C ddP_init_31 wd_209 my_H_init ⟨rfl, mi_H_init⟩ (xH_init hG hg (d - 1) (by omega) hq216) (by omega) rfl rfl (Nat.le_of_ble_eq_true rfl) ⟨by rw [hR]; exact Nat.le_of_ble_eq_true rfl, by rw [hR]; exact Nat.le_of_ble_eq_true rfl⟩ ?_
  refine zz_kn (k1 := 649) (n1 := 61924) (by decide) (by decide) ?_
  obtain ⟨h217, h⟩ := gdN h
  obtain ⟨h218, h⟩ := gdN h
  refine zz_aastore (t := 103) (tc := 1) C ddP_init_34 rfl (by decide) (fun _ => rfl) h217 h218 ?_
  refine zz_iinc (v := 36) (L1 := [(2, .int 36), (0, .ref v0), (1, .ref v1)]) C 0 ddP_init_35 rfl (by decide) N (by decide) rfl ?_
  refine zz_goto (tgt := 15) C ddP_init_38 rfl ?_
  refine zz_iload_n C 0 ddP_init_15 rfl rfl ?_
  refine zz_bipush (v := 40) C ddP_init_16 (by decide) ?_
  refine zz_icmp_ge (tgt := 41) C ddP_init_18 rfl (fun hc => absurd hc (by decide)) (fun hc => ?_)
  refine zz_aload_n C 1 ddP_init_21 rfl rfl ?_
  obtain ⟨h219, h⟩ := gdN h
  obtain ⟨h220, h⟩ := gdN h
  refine zz_getr C ddP_init_22 fl_P_11 rfl h219 (of_decide_eq_true h220) ?_
  refine zz_iload_n C 0 ddP_init_25 rfl rfl ?_
  obtain ⟨q221, hq221, h⟩ := bindN h
  refine zz_new C ddP_init_26 (t := 1) rfl rfl ⟨wd_207, wd_119, wd_6⟩ hg hq221 ⟨by rw [hR]; exact Nat.le_of_ble_eq_true rfl, by rw [hR]; exact Nat.le_of_ble_eq_true rfl⟩ ?_
  refine zz_kn (k1 := 650) (n1 := 61933) (by decide) (by decide) ?_
  refine zz_dup C ddP_init_29 rfl ?_
  refine zz_aload_n C 2 ddP_init_30 rfl rfl ?_
  obtain ⟨q222, hq222, h⟩ := bindN h
  refine zz_callI (As := [.ref v1]) C ddP_init_31 wd_209 my_H_init ⟨rfl, mi_H_init⟩ (xH_init hG hg (d - 1) (by omega) hq222) (by omega) rfl rfl (Nat.le_of_ble_eq_true rfl) ⟨by rw [hR]; exact Nat.le_of_ble_eq_true rfl, by rw [hR]; exact Nat.le_of_ble_eq_true rfl⟩ ?_
  refine zz_kn (k1 := 667) (n1 := 63643) (by decide) (by decide) ?_
  obtain ⟨h223, h⟩ := gdN h
  obtain ⟨h224, h⟩ := gdN h
  refine zz_aastore (t := 103) (tc := 1) C ddP_init_34 rfl (by decide) (fun _ => rfl) h223 h224 ?_
  refine zz_iinc (v := 37) (L1 := [(2, .int 37), (0, .ref v0), (1, .ref v1)]) C 0 ddP_init_35 rfl (by decide) N (by decide) rfl ?_
  refine zz_goto (tgt := 15) C ddP_init_38 rfl ?_
  refine zz_iload_n C 0 ddP_init_15 rfl rfl ?_
  refine zz_bipush (v := 40) C ddP_init_16 (by decide) ?_
  refine zz_icmp_ge (tgt := 41) C ddP_init_18 rfl (fun hc => absurd hc (by decide)) (fun hc => ?_)
  refine zz_aload_n C 1 ddP_init_21 rfl rfl ?_
  obtain ⟨h225, h⟩ := gdN h
  obtain ⟨h226, h⟩ := gdN h
  refine zz_getr C ddP_init_22 fl_P_11 rfl h225 (of_decide_eq_true h226) ?_
  refine zz_iload_n C 0 ddP_init_25 rfl rfl ?_
  obtain ⟨q227, hq227, h⟩ := bindN h
  refine zz_new C ddP_init_26 (t := 1) rfl rfl ⟨wd_207, wd_119, wd_6⟩ hg hq227 ⟨by rw [hR]; exact Nat.le_of_ble_eq_true rfl, by rw [hR]; exact Nat.le_of_ble_eq_true rfl⟩ ?_
  refine zz_kn (k1 := 668) (n1 := 63652) (by decide) (by decide) ?_
  refine zz_dup C ddP_init_29 rfl ?_
  refine zz_aload_n C 2 ddP_init_30 rfl rfl ?_
  obtain ⟨q228, hq228, h⟩ := bindN h
  refine zz_callI (As := [.ref v1]) C ddP_init_31 wd_209 my_H_init ⟨rfl, mi_H_init⟩ (xH_init hG hg (d - 1) (by omega) hq228) (by omega) rfl rfl (Nat.le_of_ble_eq_true rfl) ⟨by rw [hR]; exact Nat.le_of_ble_eq_true rfl, by rw [hR]; exact Nat.le_of_ble_eq_true rfl⟩ ?_
  refine zz_kn (k1 := 685) (n1 := 65362) (by decide) (by decide) ?_
  obtain ⟨h229, h⟩ := gdN h
  obtain ⟨h230, h⟩ := gdN h
  refine zz_aastore (t := 103) (tc := 1) C ddP_init_34 rfl (by decide) (fun _ => rfl) h229 h230 ?_
  refine zz_iinc (v := 38) (L1 := [(2, .int 38), (0, .ref v0), (1, .ref v1)]) C 0 ddP_init_35 rfl (by decide) N (by decide) rfl ?_
  refine zz_goto (tgt := 15) C ddP_init_38 rfl ?_
  refine zz_iload_n C 0 ddP_init_15 rfl rfl ?_
  refine zz_bipush (v := 40) C ddP_init_16 (by decide) ?_
  refine zz_icmp_ge (tgt := 41) C ddP_init_18 rfl (fun hc => absurd hc (by decide)) (fun hc => ?_)
  refine zz_aload_n C 1 ddP_init_21 rfl rfl ?_
  obtain ⟨h231, h⟩ := gdN h
  obtain ⟨h232, h⟩ := gdN h
  refine zz_getr C ddP_init_22 fl_P_11 rfl h231 (of_decide_eq_true h232) ?_
  refine zz_iload_n C 0 ddP_init_25 rfl rfl ?_
  obtain ⟨q233, hq233, h⟩ := bindN h
  refine zz_new C ddP_init_26 (t := 1) rfl rfl ⟨wd_207, wd_119, wd_6⟩ hg hq233 ⟨by rw [hR]; exact Nat.le_of_ble_eq_true rfl, by rw [hR]; exact Nat.le_of_ble_eq_true rfl⟩ ?_
  refine zz_kn (k1 := 686) (n1 := 65371) (by decide) (by decide) ?_
  refine zz_dup C ddP_init_29 rfl ?_
  refine zz_aload_n C 2 ddP_init_30 rfl rfl ?_
  obtain ⟨q234, hq234, h⟩ := bindN h
  refine zz_callI (As := [.ref v1]) C ddP_init_31 wd_209 my_H_init ⟨rfl, mi_H_init⟩ (xH_init hG hg (d - 1) (by omega) hq234) (by omega) rfl rfl (Nat.le_of_ble_eq_true rfl) ⟨by rw [hR]; exact Nat.le_of_ble_eq_true rfl, by rw [hR]; exact Nat.le_of_ble_eq_true rfl⟩ ?_
  refine zz_kn (k1 := 703) (n1 := 67081) (by decide) (by decide) ?_
  obtain ⟨h235, h⟩ := gdN h
  obtain ⟨h236, h⟩ := gdN h
  refine zz_aastore (t := 103) (tc := 1) C ddP_init_34 rfl (by decide) (fun _ => rfl) h235 h236 ?_
  refine zz_iinc (v := 39) (L1 := [(2, .int 39), (0, .ref v0), (1, .ref v1)]) C 0 ddP_init_35 rfl (by decide) N (by decide) rfl ?_
  refine zz_goto (tgt := 15) C ddP_init_38 rfl ?_
  refine zz_iload_n C 0 ddP_init_15 rfl rfl ?_
  refine zz_bipush (v := 40) C ddP_init_16 (by decide) ?_
  refine zz_icmp_ge (tgt := 41) C ddP_init_18 rfl (fun hc => absurd hc (by decide)) (fun hc => ?_)
  refine zz_aload_n C 1 ddP_init_21 rfl rfl ?_
  obtain ⟨h237, h⟩ := gdN h
  obtain ⟨h238, h⟩ := gdN h
  refine zz_getr C ddP_init_22 fl_P_11 rfl h237 (of_decide_eq_true h238) ?_
  refine zz_iload_n C 0 ddP_init_25 rfl rfl ?_
  obtain ⟨q239, hq239, h⟩ := bindN h
  refine zz_new C ddP_init_26 (t := 1) rfl rfl ⟨wd_207, wd_119, wd_6⟩ hg hq239 ⟨by rw [hR]; exact Nat.le_of_ble_eq_true rfl, by rw [hR]; exact Nat.le_of_ble_eq_true rfl⟩ ?_
  refine zz_kn (k1 := 704) (n1 := 67090) (by decide) (by decide) ?_
  refine zz_dup C ddP_init_29 rfl ?_
  refine zz_aload_n C 2 ddP_init_30 rfl rfl ?_
  obtain ⟨q240, hq240, h⟩ := bindN h
  refine zz_callI (As := [.ref v1]) C ddP_init_31 wd_209 my_H_init ⟨rfl, mi_H_init⟩ (xH_init hG hg (d - 1) (by omega) hq240) (by omega) rfl rfl (Nat.le_of_ble_eq_true rfl) ⟨by rw [hR]; exact Nat.le_of_ble_eq_true rfl, by rw [hR]; exact Nat.le_of_ble_eq_true rfl⟩ ?_
  refine zz_kn (k1 := 721) (n1 := 68800) (by decide) (by decide) ?_
  obtain ⟨h241, h⟩ := gdN h
  obtain ⟨h242, h⟩ := gdN h
  refine zz_aastore (t := 103) (tc := 1) C ddP_init_34 rfl (by decide) (fun _ => rfl) h241 h242 ?_
  refine zz_iinc (v := 40) (L1 := [(2, .int 40), (0, .ref v0), (1, .ref v1)]) C 0 ddP_init_35 rfl (by decide) N (by decide) rfl ?_
  refine zz_goto (tgt := 15) C ddP_init_38 rfl ?_
  refine zz_iload_n C 0 ddP_init_15 rfl rfl ?_
  refine zz_bipush (v := 40) C ddP_init_16 (by decide) ?_
  refine zz_icmp_ge (tgt := 41) C ddP_init_18 rfl (fun hc => ?_) (fun hc => absurd hc (by decide))
  refine zz_aload_n C 1 ddP_init_41 rfl rfl ?_
  refine zz_iconst (v := 0) C ddP_init_42 (by decide) ?_
  obtain ⟨h243, h⟩ := gdN h
  refine zz_puti C ddP_init_43 fl_P_20 rfl rfl rfl h243 ?_
  refine zz_aload_n C 1 ddP_init_46 rfl rfl ?_
  refine zz_iconst (v := 0) C ddP_init_47 (by decide) ?_
  refine zz_puti C ddP_init_48 fl_P_24 rfl rfl rfl h243 ?_
  obtain rfl := Option.some.inj h
  exact zz_vret C E ddP_init_51
theorem ddG_init_0 : decode cG_init 0 = .ok (.aload_n 0, 1) := by decide +kernel
theorem ddG_init_1 : decode cG_init 1 = .ok (.invokespecial 3, 3) := by decide +kernel
theorem ddG_init_4 : decode cG_init 4 = .ok (.aload_n 0, 1) := by decide +kernel
theorem ddG_init_5 : decode cG_init 5 = .ok (.bipush 24, 2) := by decide +kernel
theorem ddG_init_7 : decode cG_init 7 = .ok (.newarray .int, 2) := by decide +kernel
theorem ddG_init_9 : decode cG_init 9 = .ok (.putfield 9, 3) := by decide +kernel
theorem ddG_init_12 : decode cG_init 12 = .ok (.aload_n 0, 1) := by decide +kernel
theorem ddG_init_13 : decode cG_init 13 = .ok (.bipush 24, 2) := by decide +kernel
theorem ddG_init_15 : decode cG_init 15 = .ok (.newarray .int, 2) := by decide +kernel
theorem ddG_init_17 : decode cG_init 17 = .ok (.putfield 15, 3) := by decide +kernel
theorem ddG_init_20 : decode cG_init 20 = .ok (.aload_n 0, 1) := by decide +kernel
theorem ddG_init_21 : decode cG_init 21 = .ok (.bipush 24, 2) := by decide +kernel
theorem ddG_init_23 : decode cG_init 23 = .ok (.newarray .int, 2) := by decide +kernel
theorem ddG_init_25 : decode cG_init 25 = .ok (.putfield 18, 3) := by decide +kernel
theorem ddG_init_28 : decode cG_init 28 = .ok (.aload_n 0, 1) := by decide +kernel
theorem ddG_init_29 : decode cG_init 29 = .ok (.iconst 0, 1) := by decide +kernel
theorem ddG_init_30 : decode cG_init 30 = .ok (.putfield 21, 3) := by decide +kernel
theorem ddG_init_33 : decode cG_init 33 = .ok (.aload_n 0, 1) := by decide +kernel
theorem ddG_init_34 : decode cG_init 34 = .ok (.iconst 0, 1) := by decide +kernel
theorem ddG_init_35 : decode cG_init 35 = .ok (.putfield 25, 3) := by decide +kernel
theorem ddG_init_38 : decode cG_init 38 = .ok (.return_, 1) := by decide +kernel
set_option maxHeartbeats 8000000 in
set_option maxRecDepth 100000 in
theorem xG_init {G : GXM} {l : Launch} (hG : GokM G) (hg : G.2.2.2.2 = true) (d : Nat) (hd : 1 ≤ d) {v0 : Nat} {M : Mem} {q : Mem} (h : fG_init v0 M = some q) : ExM G l d 3 (72) yG_init cG_init 1 none [.ref v0] M none q := by
  refine ex_of hG (by decide +kernel) (Nat.le_of_ble_eq_true rfl) ?_
  intro X hl C E N hD hn
  have hR := EnM_R E
  show ZM G X 0 [(0, .ref v0)] [] M 0 0
  unfold fG_init at h
  refine zz_aload_n C 0 ddG_init_0 rfl rfl ?_
  refine zz_objInit C ddG_init_1 wd_235 ⟨wd_31, wd_32⟩ (by omega) (Nat.le_of_ble_eq_true rfl) ?_
  refine zz_aload_n C 0 ddG_init_4 rfl rfl ?_
  refine zz_bipush (v := 24) C ddG_init_5 (by decide) ?_
  obtain ⟨q1, hq1, h⟩ := bindN h
  refine zz_newI C ddG_init_7 wd_49 hg (by decide) (by decide) hq1 ⟨by rw [hR]; exact Nat.le_of_ble_eq_true rfl, by rw [hR]; exact Nat.le_of_ble_eq_true rfl⟩ ?_
  refine zz_kn (k1 := 1) (n1 := 24) (by decide) (by decide) ?_
  obtain ⟨h2, h⟩ := gdN h
  obtain ⟨h3, h⟩ := gdN h
  refine zz_putr C ddG_init_9 fl_G_9 (Or.inr ⟨hn, _, rfl, rfl⟩) rfl (fun _ => rfl) (fun _ => rfl) h2 (of_decide_eq_true h3) ?_
  refine zz_aload_n C 0 ddG_init_12 rfl rfl ?_
  refine zz_bipush (v := 24) C ddG_init_13 (by decide) ?_
  obtain ⟨q4, hq4, h⟩ := bindN h
  refine zz_newI C ddG_init_15 wd_49 hg (by decide) (by decide) hq4 ⟨by rw [hR]; exact Nat.le_of_ble_eq_true rfl, by rw [hR]; exact Nat.le_of_ble_eq_true rfl⟩ ?_
  refine zz_kn (k1 := 2) (n1 := 48) (by decide) (by decide) ?_
  obtain ⟨h5, h⟩ := gdN h
  obtain ⟨h6, h⟩ := gdN h
  refine zz_putr C ddG_init_17 fl_G_15 (Or.inr ⟨hn, _, rfl, rfl⟩) rfl (fun _ => rfl) (fun _ => rfl) h5 (of_decide_eq_true h6) ?_
  refine zz_aload_n C 0 ddG_init_20 rfl rfl ?_
  refine zz_bipush (v := 24) C ddG_init_21 (by decide) ?_
  obtain ⟨q7, hq7, h⟩ := bindN h
  refine zz_newI C ddG_init_23 wd_49 hg (by decide) (by decide) hq7 ⟨by rw [hR]; exact Nat.le_of_ble_eq_true rfl, by rw [hR]; exact Nat.le_of_ble_eq_true rfl⟩ ?_
  refine zz_kn (k1 := 3) (n1 := 72) (by decide) (by decide) ?_
  obtain ⟨h8, h⟩ := gdN h
  obtain ⟨h9, h⟩ := gdN h
  refine zz_putr C ddG_init_25 fl_G_18 (Or.inr ⟨hn, _, rfl, rfl⟩) rfl (fun _ => rfl) (fun _ => rfl) h8 (of_decide_eq_true h9) ?_
  refine zz_aload_n C 0 ddG_init_28 rfl rfl ?_
  refine zz_iconst (v := 0) C ddG_init_29 (by decide) ?_
  refine zz_puti C ddG_init_30 fl_G_21 rfl rfl rfl h8 ?_
  refine zz_aload_n C 0 ddG_init_33 rfl rfl ?_
  refine zz_iconst (v := 0) C ddG_init_34 (by decide) ?_
  refine zz_puti C ddG_init_35 fl_G_25 rfl rfl rfl h8 ?_
  obtain rfl := Option.some.inj h
  exact zz_vret C E ddG_init_38
theorem ddX_init_0 : decode cX_init 0 = .ok (.aload_n 0, 1) := by decide +kernel
theorem ddX_init_1 : decode cX_init 1 = .ok (.invokespecial 3, 3) := by decide +kernel
theorem ddX_init_4 : decode cX_init 4 = .ok (.aload_n 0, 1) := by decide +kernel
theorem ddX_init_5 : decode cX_init 5 = .ok (.bipush 7, 2) := by decide +kernel
theorem ddX_init_7 : decode cX_init 7 = .ok (.anewarray 9, 3) := by decide +kernel
theorem ddX_init_10 : decode cX_init 10 = .ok (.putfield 11, 3) := by decide +kernel
theorem ddX_init_13 : decode cX_init 13 = .ok (.aload_n 0, 1) := by decide +kernel
theorem ddX_init_14 : decode cX_init 14 = .ok (.bipush 7, 2) := by decide +kernel
theorem ddX_init_16 : decode cX_init 16 = .ok (.anewarray 17, 3) := by decide +kernel
theorem ddX_init_19 : decode cX_init 19 = .ok (.putfield 19, 3) := by decide +kernel
theorem ddX_init_22 : decode cX_init 22 = .ok (.aload_n 0, 1) := by decide +kernel
theorem ddX_init_23 : decode cX_init 23 = .ok (.bipush 7, 2) := by decide +kernel
theorem ddX_init_25 : decode cX_init 25 = .ok (.anewarray 17, 3) := by decide +kernel
theorem ddX_init_28 : decode cX_init 28 = .ok (.putfield 23, 3) := by decide +kernel
theorem ddX_init_31 : decode cX_init 31 = .ok (.iconst 0, 1) := by decide +kernel
theorem ddX_init_32 : decode cX_init 32 = .ok (.istore_n 2, 1) := by decide +kernel
theorem ddX_init_33 : decode cX_init 33 = .ok (.iload_n 2, 1) := by decide +kernel
theorem ddX_init_34 : decode cX_init 34 = .ok (.aload_n 0, 1) := by decide +kernel
theorem ddX_init_35 : decode cX_init 35 = .ok (.getfield 11, 3) := by decide +kernel
theorem ddX_init_38 : decode cX_init 38 = .ok (.arraylength, 1) := by decide +kernel
theorem ddX_init_39 : decode cX_init 39 = .ok (.if_icmp .ge 49, 3) := by decide +kernel
theorem ddX_init_42 : decode cX_init 42 = .ok (.aload_n 0, 1) := by decide +kernel
theorem ddX_init_43 : decode cX_init 43 = .ok (.getfield 11, 3) := by decide +kernel
theorem ddX_init_46 : decode cX_init 46 = .ok (.iload_n 2, 1) := by decide +kernel
theorem ddX_init_47 : decode cX_init 47 = .ok (.new 9, 3) := by decide +kernel
theorem ddX_init_50 : decode cX_init 50 = .ok (.dup, 1) := by decide +kernel
theorem ddX_init_51 : decode cX_init 51 = .ok (.aload_n 1, 1) := by decide +kernel
theorem ddX_init_52 : decode cX_init 52 = .ok (.invokespecial 26, 3) := by decide +kernel
theorem ddX_init_55 : decode cX_init 55 = .ok (.aastore, 1) := by decide +kernel
theorem ddX_init_56 : decode cX_init 56 = .ok (.aload_n 0, 1) := by decide +kernel
theorem ddX_init_57 : decode cX_init 57 = .ok (.getfield 19, 3) := by decide +kernel
theorem ddX_init_60 : decode cX_init 60 = .ok (.iload_n 2, 1) := by decide +kernel
theorem ddX_init_61 : decode cX_init 61 = .ok (.new 17, 3) := by decide +kernel
theorem ddX_init_64 : decode cX_init 64 = .ok (.dup, 1) := by decide +kernel
theorem ddX_init_65 : decode cX_init 65 = .ok (.invokespecial 29, 3) := by decide +kernel
theorem ddX_init_68 : decode cX_init 68 = .ok (.aastore, 1) := by decide +kernel
theorem ddX_init_69 : decode cX_init 69 = .ok (.aload_n 0, 1) := by decide +kernel
theorem ddX_init_70 : decode cX_init 70 = .ok (.getfield 23, 3) := by decide +kernel
theorem ddX_init_73 : decode cX_init 73 = .ok (.iload_n 2, 1) := by decide +kernel
theorem ddX_init_74 : decode cX_init 74 = .ok (.new 17, 3) := by decide +kernel
theorem ddX_init_77 : decode cX_init 77 = .ok (.dup, 1) := by decide +kernel
theorem ddX_init_78 : decode cX_init 78 = .ok (.invokespecial 29, 3) := by decide +kernel
theorem ddX_init_81 : decode cX_init 81 = .ok (.aastore, 1) := by decide +kernel
theorem ddX_init_82 : decode cX_init 82 = .ok (.iinc 2 1, 3) := by decide +kernel
theorem ddX_init_85 : decode cX_init 85 = .ok (.goto (-52), 3) := by decide +kernel
theorem ddX_init_88 : decode cX_init 88 = .ok (.aload_n 0, 1) := by decide +kernel
theorem ddX_init_89 : decode cX_init 89 = .ok (.new 30, 3) := by decide +kernel
theorem ddX_init_92 : decode cX_init 92 = .ok (.dup, 1) := by decide +kernel
theorem ddX_init_93 : decode cX_init 93 = .ok (.invokespecial 32, 3) := by decide +kernel
theorem ddX_init_96 : decode cX_init 96 = .ok (.putfield 33, 3) := by decide +kernel
theorem ddX_init_99 : decode cX_init 99 = .ok (.aload_n 0, 1) := by decide +kernel
theorem ddX_init_100 : decode cX_init 100 = .ok (.aload_n 0, 1) := by decide +kernel
theorem ddX_init_101 : decode cX_init 101 = .ok (.getfield 33, 3) := by decide +kernel
theorem ddX_init_104 : decode cX_init 104 = .ok (.putfield 37, 3) := by decide +kernel
theorem ddX_init_107 : decode cX_init 107 = .ok (.return_, 1) := by decide +kernel
set_option maxHeartbeats 8000000 in
set_option maxRecDepth 100000 in
theorem xX_init {G : GXM} {l : Launch} (hG : GokM G) (hg : G.2.2.2.2 = true) (d : Nat) (hd : 3 ≤ d) {v0 : Nat} {v1 : Nat} {M : Mem} {q : Mem} (h : fX_init v0 v1 M = some q) : ExM G l d 189 (13208) yX_init cX_init 3 none [.ref v0, .ref v1] M none q := by
  refine ex_of hG (by decide +kernel) (Nat.le_of_ble_eq_true rfl) ?_
  intro X hl C E N hD hn
  have hR := EnM_R E
  show ZM G X 0 [(0, .ref v0), (1, .ref v1)] [] M 0 0
  unfold fX_init at h
  refine zz_aload_n C 0 ddX_init_0 rfl rfl ?_
  refine zz_objInit C ddX_init_1 wd_226 ⟨wd_31, wd_32⟩ (by omega) (Nat.le_of_ble_eq_true rfl) ?_
  refine zz_aload_n C 0 ddX_init_4 rfl rfl ?_
  refine zz_bipush (v := 7) C ddX_init_5 (by decide) ?_
  obtain ⟨q1, hq1, h⟩ := bindN h
  refine zz_newR (t := 103) C ddX_init_7 wd_227 wd_208 (by decide) (fun _ => rfl) hg (by decide) (by decide) hq1 ⟨by rw [hR]; exact Nat.le_of_ble_eq_true rfl, by rw [hR]; exact Nat.le_of_ble_eq_true rfl⟩ ?_
  refine zz_kn (k1 := 1) (n1 := 7) (by decide) (by decide) ?_
  obtain ⟨h2, h⟩ := gdN h
  obtain ⟨h3, h⟩ := gdN h
  refine zz_putr C ddX_init_10 fl_X_11 (Or.inr ⟨hn, _, rfl, rfl⟩) rfl (fun _ => rfl) (fun _ => rfl) h2 (of_decide_eq_true h3) ?_
  refine zz_aload_n C 0 ddX_init_13 rfl rfl ?_
  refine zz_bipush (v := 7) C ddX_init_14 (by decide) ?_
  obtain ⟨q4, hq4, h⟩ := bindN h
  refine zz_newR (t := 105) C ddX_init_16 wd_228 wd_229 (by decide) (fun _ => rfl) hg (by decide) (by decide) hq4 ⟨by rw [hR]; exact Nat.le_of_ble_eq_true rfl, by rw [hR]; exact Nat.le_of_ble_eq_true rfl⟩ ?_
  refine zz_kn (k1 := 2) (n1 := 14) (by decide) (by decide) ?_
  obtain ⟨h5, h⟩ := gdN h
  obtain ⟨h6, h⟩ := gdN h
  refine zz_putr C ddX_init_19 fl_X_19 (Or.inr ⟨hn, _, rfl, rfl⟩) rfl (fun _ => rfl) (fun _ => rfl) h5 (of_decide_eq_true h6) ?_
  refine zz_aload_n C 0 ddX_init_22 rfl rfl ?_
  refine zz_bipush (v := 7) C ddX_init_23 (by decide) ?_
  obtain ⟨q7, hq7, h⟩ := bindN h
  refine zz_newR (t := 105) C ddX_init_25 wd_228 wd_229 (by decide) (fun _ => rfl) hg (by decide) (by decide) hq7 ⟨by rw [hR]; exact Nat.le_of_ble_eq_true rfl, by rw [hR]; exact Nat.le_of_ble_eq_true rfl⟩ ?_
  refine zz_kn (k1 := 3) (n1 := 21) (by decide) (by decide) ?_
  obtain ⟨h8, h⟩ := gdN h
  obtain ⟨h9, h⟩ := gdN h
  refine zz_putr C ddX_init_28 fl_X_23 (Or.inr ⟨hn, _, rfl, rfl⟩) rfl (fun _ => rfl) (fun _ => rfl) h8 (of_decide_eq_true h9) ?_
  refine zz_iconst (v := 0) C ddX_init_31 (by decide) ?_
  refine zz_istore_n (L1 := [(2, .int 0), (0, .ref v0), (1, .ref v1)]) C ddX_init_32 rfl N (by decide) rfl ?_
  refine zz_iload_n C 0 ddX_init_33 rfl rfl ?_
  refine zz_aload_n C 1 ddX_init_34 rfl rfl ?_
  obtain ⟨h10, h⟩ := gdN h
  refine zz_getr C ddX_init_35 fl_X_11 rfl h8 (of_decide_eq_true h10) ?_
  obtain ⟨h11, h⟩ := gdN h
  obtain ⟨h12, h⟩ := gdN h
  refine zz_alenV (v := 7) (t := 103) C ddX_init_38 (by decide) (fun _ => rfl) h11 (by rw [of_decide_eq_true h12]; rfl) ?_
  refine zz_icmp_ge (tgt := 88) C ddX_init_39 rfl (fun hc => absurd hc (by decide)) (fun hc => ?_)
  refine zz_aload_n C 1 ddX_init_42 rfl rfl ?_
  refine zz_getr C ddX_init_43 fl_X_11 rfl h8 (of_decide_eq_true h10) ?_
  refine zz_iload_n C 0 ddX_init_46 rfl rfl ?_
  obtain ⟨q13, hq13, h⟩ := bindN h
  refine zz_new C ddX_init_47 (t := 1) rfl rfl ⟨wd_227, wd_119, wd_6⟩ hg hq13 ⟨by rw [hR]; exact Nat.le_of_ble_eq_true rfl, by rw [hR]; exact Nat.le_of_ble_eq_true rfl⟩ ?_
  refine zz_kn (k1 := 4) (n1 := 30) (by decide) (by decide) ?_
  refine zz_dup C ddX_init_50 rfl ?_
  refine zz_aload_n C 2 ddX_init_51 rfl rfl ?_
  obtain ⟨q14, hq14, h⟩ := bindN h
  refine zz_callI (As := [.ref v1]) C ddX_init_52 wd_230 my_H_init ⟨rfl, mi_H_init⟩ (xH_init hG hg (d - 1) (by omega) hq14) (by omega) rfl rfl (Nat.le_of_ble_eq_true rfl) ⟨by rw [hR]; exact Nat.le_of_ble_eq_true rfl, by rw [hR]; exact Nat.le_of_ble_eq_true rfl⟩ ?_
  refine zz_kn (k1 := 21) (n1 := 1740) (by decide) (by decide) ?_
  obtain ⟨h15, h⟩ := gdN h
  obtain ⟨h16, h⟩ := gdN h
  refine zz_aastore (t := 103) (tc := 1) C ddX_init_55 rfl (by decide) (fun _ => rfl) h15 h16 ?_
  refine zz_aload_n C 1 ddX_init_56 rfl rfl ?_
  obtain ⟨h17, h⟩ := gdN h
  obtain ⟨h18, h⟩ := gdN h
  refine zz_getr C ddX_init_57 fl_X_19 rfl h17 (of_decide_eq_true h18) ?_
  refine zz_iload_n C 0 ddX_init_60 rfl rfl ?_
  obtain ⟨q19, hq19, h⟩ := bindN h
  refine zz_new C ddX_init_61 (t := 5) rfl rfl ⟨wd_228, wd_231, wd_12⟩ hg hq19 ⟨by rw [hR]; exact Nat.le_of_ble_eq_true rfl, by rw [hR]; exact Nat.le_of_ble_eq_true rfl⟩ ?_
  refine zz_kn (k1 := 22) (n1 := 1745) (by decide) (by decide) ?_
  refine zz_dup C ddX_init_64 rfl ?_
  obtain ⟨q20, hq20, h⟩ := bindN h
  refine zz_callIN (As := []) C ddX_init_65 wd_232 my_G_init ⟨rfl, mi_G_init⟩ (xG_init hG hg (d - 1) (by omega) hq20) (by omega) rfl rfl (Nat.le_of_ble_eq_true rfl) ⟨by rw [hR]; exact Nat.le_of_ble_eq_true rfl, by rw [hR]; exact Nat.le_of_ble_eq_true rfl⟩ ?_
  refine zz_kn (k1 := 25) (n1 := 1817) (by decide) (by decide) ?_
  obtain ⟨h21, h⟩ := gdN h
  obtain ⟨h22, h⟩ := gdN h
  refine zz_aastore (t := 105) (tc := 5) C ddX_init_68 rfl (by decide) (fun _ => rfl) h21 h22 ?_
  refine zz_aload_n C 1 ddX_init_69 rfl rfl ?_
  obtain ⟨h23, h⟩ := gdN h
  obtain ⟨h24, h⟩ := gdN h
  refine zz_getr C ddX_init_70 fl_X_23 rfl h23 (of_decide_eq_true h24) ?_
  refine zz_iload_n C 0 ddX_init_73 rfl rfl ?_
  obtain ⟨q25, hq25, h⟩ := bindN h
  refine zz_new C ddX_init_74 (t := 5) rfl rfl ⟨wd_228, wd_231, wd_12⟩ hg hq25 ⟨by rw [hR]; exact Nat.le_of_ble_eq_true rfl, by rw [hR]; exact Nat.le_of_ble_eq_true rfl⟩ ?_
  refine zz_kn (k1 := 26) (n1 := 1822) (by decide) (by decide) ?_
  refine zz_dup C ddX_init_77 rfl ?_
  obtain ⟨q26, hq26, h⟩ := bindN h
  refine zz_callIN (As := []) C ddX_init_78 wd_232 my_G_init ⟨rfl, mi_G_init⟩ (xG_init hG hg (d - 1) (by omega) hq26) (by omega) rfl rfl (Nat.le_of_ble_eq_true rfl) ⟨by rw [hR]; exact Nat.le_of_ble_eq_true rfl, by rw [hR]; exact Nat.le_of_ble_eq_true rfl⟩ ?_
  refine zz_kn (k1 := 29) (n1 := 1894) (by decide) (by decide) ?_
  obtain ⟨h27, h⟩ := gdN h
  obtain ⟨h28, h⟩ := gdN h
  refine zz_aastore (t := 105) (tc := 5) C ddX_init_81 rfl (by decide) (fun _ => rfl) h27 h28 ?_
  refine zz_iinc (v := 1) (L1 := [(2, .int 1), (0, .ref v0), (1, .ref v1)]) C 0 ddX_init_82 rfl (by decide) N (by decide) rfl ?_
  refine zz_goto (tgt := 33) C ddX_init_85 rfl ?_
  refine zz_iload_n C 0 ddX_init_33 rfl rfl ?_
  refine zz_aload_n C 1 ddX_init_34 rfl rfl ?_
  obtain ⟨h29, h⟩ := gdN h
  obtain ⟨h30, h⟩ := gdN h
  refine zz_getr C ddX_init_35 fl_X_11 rfl h29 (of_decide_eq_true h30) ?_
  obtain ⟨h31, h⟩ := gdN h
  obtain ⟨h32, h⟩ := gdN h
  refine zz_alenV (v := 7) (t := 103) C ddX_init_38 (by decide) (fun _ => rfl) h31 (by rw [of_decide_eq_true h32]; rfl) ?_
  refine zz_icmp_ge (tgt := 88) C ddX_init_39 rfl (fun hc => absurd hc (by decide)) (fun hc => ?_)
  refine zz_aload_n C 1 ddX_init_42 rfl rfl ?_
  refine zz_getr C ddX_init_43 fl_X_11 rfl h29 (of_decide_eq_true h30) ?_
  refine zz_iload_n C 0 ddX_init_46 rfl rfl ?_
  obtain ⟨q33, hq33, h⟩ := bindN h
  refine zz_new C ddX_init_47 (t := 1) rfl rfl ⟨wd_227, wd_119, wd_6⟩ hg hq33 ⟨by rw [hR]; exact Nat.le_of_ble_eq_true rfl, by rw [hR]; exact Nat.le_of_ble_eq_true rfl⟩ ?_
  refine zz_kn (k1 := 30) (n1 := 1903) (by decide) (by decide) ?_
  refine zz_dup C ddX_init_50 rfl ?_
  refine zz_aload_n C 2 ddX_init_51 rfl rfl ?_
  obtain ⟨q34, hq34, h⟩ := bindN h
  refine zz_callI (As := [.ref v1]) C ddX_init_52 wd_230 my_H_init ⟨rfl, mi_H_init⟩ (xH_init hG hg (d - 1) (by omega) hq34) (by omega) rfl rfl (Nat.le_of_ble_eq_true rfl) ⟨by rw [hR]; exact Nat.le_of_ble_eq_true rfl, by rw [hR]; exact Nat.le_of_ble_eq_true rfl⟩ ?_
  refine zz_kn (k1 := 47) (n1 := 3613) (by decide) (by decide) ?_
  obtain ⟨h35, h⟩ := gdN h
  obtain ⟨h36, h⟩ := gdN h
  refine zz_aastore (t := 103) (tc := 1) C ddX_init_55 rfl (by decide) (fun _ => rfl) h35 h36 ?_
  refine zz_aload_n C 1 ddX_init_56 rfl rfl ?_
  obtain ⟨h37, h⟩ := gdN h
  obtain ⟨h38, h⟩ := gdN h
  refine zz_getr C ddX_init_57 fl_X_19 rfl h37 (of_decide_eq_true h38) ?_
  refine zz_iload_n C 0 ddX_init_60 rfl rfl ?_
  obtain ⟨q39, hq39, h⟩ := bindN h
  refine zz_new C ddX_init_61 (t := 5) rfl rfl ⟨wd_228, wd_231, wd_12⟩ hg hq39 ⟨by rw [hR]; exact Nat.le_of_ble_eq_true rfl, by rw [hR]; exact Nat.le_of_ble_eq_true rfl⟩ ?_
  refine zz_kn (k1 := 48) (n1 := 3618) (by decide) (by decide) ?_
  refine zz_dup C ddX_init_64 rfl ?_
  obtain ⟨q40, hq40, h⟩ := bindN h
  refine zz_callIN (As := []) C ddX_init_65 wd_232 my_G_init ⟨rfl, mi_G_init⟩ (xG_init hG hg (d - 1) (by omega) hq40) (by omega) rfl rfl (Nat.le_of_ble_eq_true rfl) ⟨by rw [hR]; exact Nat.le_of_ble_eq_true rfl, by rw [hR]; exact Nat.le_of_ble_eq_true rfl⟩ ?_
  refine zz_kn (k1 := 51) (n1 := 3690) (by decide) (by decide) ?_
  obtain ⟨h41, h⟩ := gdN h
  obtain ⟨h42, h⟩ := gdN h
  refine zz_aastore (t := 105) (tc := 5) C ddX_init_68 rfl (by decide) (fun _ => rfl) h41 h42 ?_
  refine zz_aload_n C 1 ddX_init_69 rfl rfl ?_
  obtain ⟨h43, h⟩ := gdN h
  obtain ⟨h44, h⟩ := gdN h
  refine zz_getr C ddX_init_70 fl_X_23 rfl h43 (of_decide_eq_true h44) ?_
  refine zz_iload_n C 0 ddX_init_73 rfl rfl ?_
  obtain ⟨q45, hq45, h⟩ := bindN h
  refine zz_new C ddX_init_74 (t := 5) rfl rfl ⟨wd_228, wd_231, wd_12⟩ hg hq45 ⟨by rw [hR]; exact Nat.le_of_ble_eq_true rfl, by rw [hR]; exact Nat.le_of_ble_eq_true rfl⟩ ?_
  refine zz_kn (k1 := 52) (n1 := 3695) (by decide) (by decide) ?_
  refine zz_dup C ddX_init_77 rfl ?_
  obtain ⟨q46, hq46, h⟩ := bindN h
  refine zz_callIN (As := []) C ddX_init_78 wd_232 my_G_init ⟨rfl, mi_G_init⟩ (xG_init hG hg (d - 1) (by omega) hq46) (by omega) rfl rfl (Nat.le_of_ble_eq_true rfl) ⟨by rw [hR]; exact Nat.le_of_ble_eq_true rfl, by rw [hR]; exact Nat.le_of_ble_eq_true rfl⟩ ?_
  refine zz_kn (k1 := 55) (n1 := 3767) (by decide) (by decide) ?_
  obtain ⟨h47, h⟩ := gdN h
  obtain ⟨h48, h⟩ := gdN h
  refine zz_aastore (t := 105) (tc := 5) C ddX_init_81 rfl (by decide) (fun _ => rfl) h47 h48 ?_
  refine zz_iinc (v := 2) (L1 := [(2, .int 2), (0, .ref v0), (1, .ref v1)]) C 0 ddX_init_82 rfl (by decide) N (by decide) rfl ?_
  refine zz_goto (tgt := 33) C ddX_init_85 rfl ?_
  refine zz_iload_n C 0 ddX_init_33 rfl rfl ?_
  refine zz_aload_n C 1 ddX_init_34 rfl rfl ?_
  obtain ⟨h49, h⟩ := gdN h
  obtain ⟨h50, h⟩ := gdN h
  refine zz_getr C ddX_init_35 fl_X_11 rfl h49 (of_decide_eq_true h50) ?_
  obtain ⟨h51, h⟩ := gdN h
  obtain ⟨h52, h⟩ := gdN h
  refine zz_alenV (v := 7) (t := 103) C ddX_init_38 (by decide) (fun _ => rfl) h51 (by rw [of_decide_eq_true h52]; rfl) ?_
  refine zz_icmp_ge (tgt := 88) C ddX_init_39 rfl (fun hc => absurd hc (by decide)) (fun hc => ?_)
  refine zz_aload_n C 1 ddX_init_42 rfl rfl ?_
  refine zz_getr C ddX_init_43 fl_X_11 rfl h49 (of_decide_eq_true h50) ?_
  refine zz_iload_n C 0 ddX_init_46 rfl rfl ?_
  obtain ⟨q53, hq53, h⟩ := bindN h
  refine zz_new C ddX_init_47 (t := 1) rfl rfl ⟨wd_227, wd_119, wd_6⟩ hg hq53 ⟨by rw [hR]; exact Nat.le_of_ble_eq_true rfl, by rw [hR]; exact Nat.le_of_ble_eq_true rfl⟩ ?_
  refine zz_kn (k1 := 56) (n1 := 3776) (by decide) (by decide) ?_
  refine zz_dup C ddX_init_50 rfl ?_
  refine zz_aload_n C 2 ddX_init_51 rfl rfl ?_
  obtain ⟨q54, hq54, h⟩ := bindN h
  refine zz_callI (As := [.ref v1]) C ddX_init_52 wd_230 my_H_init ⟨rfl, mi_H_init⟩ (xH_init hG hg (d - 1) (by omega) hq54) (by omega) rfl rfl (Nat.le_of_ble_eq_true rfl) ⟨by rw [hR]; exact Nat.le_of_ble_eq_true rfl, by rw [hR]; exact Nat.le_of_ble_eq_true rfl⟩ ?_
  refine zz_kn (k1 := 73) (n1 := 5486) (by decide) (by decide) ?_
  obtain ⟨h55, h⟩ := gdN h
  obtain ⟨h56, h⟩ := gdN h
  refine zz_aastore (t := 103) (tc := 1) C ddX_init_55 rfl (by decide) (fun _ => rfl) h55 h56 ?_
  refine zz_aload_n C 1 ddX_init_56 rfl rfl ?_
  obtain ⟨h57, h⟩ := gdN h
  obtain ⟨h58, h⟩ := gdN h
  refine zz_getr C ddX_init_57 fl_X_19 rfl h57 (of_decide_eq_true h58) ?_
  refine zz_iload_n C 0 ddX_init_60 rfl rfl ?_
  obtain ⟨q59, hq59, h⟩ := bindN h
  refine zz_new C ddX_init_61 (t := 5) rfl rfl ⟨wd_228, wd_231, wd_12⟩ hg hq59 ⟨by rw [hR]; exact Nat.le_of_ble_eq_true rfl, by rw [hR]; exact Nat.le_of_ble_eq_true rfl⟩ ?_
  refine zz_kn (k1 := 74) (n1 := 5491) (by decide) (by decide) ?_
  refine zz_dup C ddX_init_64 rfl ?_
  obtain ⟨q60, hq60, h⟩ := bindN h
  refine zz_callIN (As := []) C ddX_init_65 wd_232 my_G_init ⟨rfl, mi_G_init⟩ (xG_init hG hg (d - 1) (by omega) hq60) (by omega) rfl rfl (Nat.le_of_ble_eq_true rfl) ⟨by rw [hR]; exact Nat.le_of_ble_eq_true rfl, by rw [hR]; exact Nat.le_of_ble_eq_true rfl⟩ ?_
  refine zz_kn (k1 := 77) (n1 := 5563) (by decide) (by decide) ?_
  obtain ⟨h61, h⟩ := gdN h
  obtain ⟨h62, h⟩ := gdN h
  refine zz_aastore (t := 105) (tc := 5) C ddX_init_68 rfl (by decide) (fun _ => rfl) h61 h62 ?_
  refine zz_aload_n C 1 ddX_init_69 rfl rfl ?_
  obtain ⟨h63, h⟩ := gdN h
  obtain ⟨h64, h⟩ := gdN h
  refine zz_getr C ddX_init_70 fl_X_23 rfl h63 (of_decide_eq_true h64) ?_
  refine zz_iload_n C 0 ddX_init_73 rfl rfl ?_
  obtain ⟨q65, hq65, h⟩ := bindN h
  refine zz_new C ddX_init_74 (t := 5) rfl rfl ⟨wd_228, wd_231, wd_12⟩ hg hq65 ⟨by rw [hR]; exact Nat.le_of_ble_eq_true rfl, by rw [hR]; exact Nat.le_of_ble_eq_true rfl⟩ ?_
  refine zz_kn (k1 := 78) (n1 := 5568) (by decide) (by decide) ?_
  refine zz_dup C ddX_init_77 rfl ?_
  obtain ⟨q66, hq66, h⟩ := bindN h
  refine zz_callIN (As := []) C ddX_init_78 wd_232 my_G_init ⟨rfl, mi_G_init⟩ (xG_init hG hg (d - 1) (by omega) hq66) (by omega) rfl rfl (Nat.le_of_ble_eq_true rfl) ⟨by rw [hR]; exact Nat.le_of_ble_eq_true rfl, by rw [hR]; exact Nat.le_of_ble_eq_true rfl⟩ ?_
  refine zz_kn (k1 := 81) (n1 := 5640) (by decide) (by decide) ?_
  obtain ⟨h67, h⟩ := gdN h
  obtain ⟨h68, h⟩ := gdN h
  refine zz_aastore (t := 105) (tc := 5) C ddX_init_81 rfl (by decide) (fun _ => rfl) h67 h68 ?_
  refine zz_iinc (v := 3) (L1 := [(2, .int 3), (0, .ref v0), (1, .ref v1)]) C 0 ddX_init_82 rfl (by decide) N (by decide) rfl ?_
  refine zz_goto (tgt := 33) C ddX_init_85 rfl ?_
  refine zz_iload_n C 0 ddX_init_33 rfl rfl ?_
  refine zz_aload_n C 1 ddX_init_34 rfl rfl ?_
  obtain ⟨h69, h⟩ := gdN h
  obtain ⟨h70, h⟩ := gdN h
  refine zz_getr C ddX_init_35 fl_X_11 rfl h69 (of_decide_eq_true h70) ?_
  obtain ⟨h71, h⟩ := gdN h
  obtain ⟨h72, h⟩ := gdN h
  refine zz_alenV (v := 7) (t := 103) C ddX_init_38 (by decide) (fun _ => rfl) h71 (by rw [of_decide_eq_true h72]; rfl) ?_
  refine zz_icmp_ge (tgt := 88) C ddX_init_39 rfl (fun hc => absurd hc (by decide)) (fun hc => ?_)
  refine zz_aload_n C 1 ddX_init_42 rfl rfl ?_
  refine zz_getr C ddX_init_43 fl_X_11 rfl h69 (of_decide_eq_true h70) ?_
  refine zz_iload_n C 0 ddX_init_46 rfl rfl ?_
  obtain ⟨q73, hq73, h⟩ := bindN h
  refine zz_new C ddX_init_47 (t := 1) rfl rfl ⟨wd_227, wd_119, wd_6⟩ hg hq73 ⟨by rw [hR]; exact Nat.le_of_ble_eq_true rfl, by rw [hR]; exact Nat.le_of_ble_eq_true rfl⟩ ?_
  refine zz_kn (k1 := 82) (n1 := 5649) (by decide) (by decide) ?_
  refine zz_dup C ddX_init_50 rfl ?_
  refine zz_aload_n C 2 ddX_init_51 rfl rfl ?_
  obtain ⟨q74, hq74, h⟩ := bindN h
  refine zz_callI (As := [.ref v1]) C ddX_init_52 wd_230 my_H_init ⟨rfl, mi_H_init⟩ (xH_init hG hg (d - 1) (by omega) hq74) (by omega) rfl rfl (Nat.le_of_ble_eq_true rfl) ⟨by rw [hR]; exact Nat.le_of_ble_eq_true rfl, by rw [hR]; exact Nat.le_of_ble_eq_true rfl⟩ ?_
  refine zz_kn (k1 := 99) (n1 := 7359) (by decide) (by decide) ?_
  obtain ⟨h75, h⟩ := gdN h
  obtain ⟨h76, h⟩ := gdN h
  refine zz_aastore (t := 103) (tc := 1) C ddX_init_55 rfl (by decide) (fun _ => rfl) h75 h76 ?_
  refine zz_aload_n C 1 ddX_init_56 rfl rfl ?_
  obtain ⟨h77, h⟩ := gdN h
  obtain ⟨h78, h⟩ := gdN h
  refine zz_getr C ddX_init_57 fl_X_19 rfl h77 (of_decide_eq_true h78) ?_
  refine zz_iload_n C 0 ddX_init_60 rfl rfl ?_
  obtain ⟨q79, hq79, h⟩ := bindN h
  refine zz_new C ddX_init_61 (t := 5) rfl rfl ⟨wd_228, wd_231, wd_12⟩ hg hq79 ⟨by rw [hR]; exact Nat.le_of_ble_eq_true rfl, by rw [hR]; exact Nat.le_of_ble_eq_true rfl⟩ ?_
  refine zz_kn (k1 := 100) (n1 := 7364) (by decide) (by decide) ?_
  refine zz_dup C ddX_init_64 rfl ?_
  obtain ⟨q80, hq80, h⟩ := bindN h
  refine zz_callIN (As := []) C ddX_init_65 wd_232 my_G_init ⟨rfl, mi_G_init⟩ (xG_init hG hg (d - 1) (by omega) hq80) (by omega) rfl rfl (Nat.le_of_ble_eq_true rfl) ⟨by rw [hR]; exact Nat.le_of_ble_eq_true rfl, by rw [hR]; exact Nat.le_of_ble_eq_true rfl⟩ ?_
  refine zz_kn (k1 := 103) (n1 := 7436) (by decide) (by decide) ?_
  obtain ⟨h81, h⟩ := gdN h
  obtain ⟨h82, h⟩ := gdN h
  refine zz_aastore (t := 105) (tc := 5) C ddX_init_68 rfl (by decide) (fun _ => rfl) h81 h82 ?_
  refine zz_aload_n C 1 ddX_init_69 rfl rfl ?_
  obtain ⟨h83, h⟩ := gdN h
  obtain ⟨h84, h⟩ := gdN h
  refine zz_getr C ddX_init_70 fl_X_23 rfl h83 (of_decide_eq_true h84) ?_
  refine zz_iload_n C 0 ddX_init_73 rfl rfl ?_
  obtain ⟨q85, hq85, h⟩ := bindN h
  refine zz_new C ddX_init_74 (t := 5) rfl rfl ⟨wd_228, wd_231, wd_12⟩ hg hq85 ⟨by rw [hR]; exact Nat.le_of_ble_eq_true rfl, by rw [hR]; exact Nat.le_of_ble_eq_true rfl⟩ ?_
  refine zz_kn (k1 := 104) (n1 := 7441) (by decide) (by decide) ?_
  refine zz_dup C ddX_init_77 rfl ?_
  obtain ⟨q86, hq86, h⟩ := bindN h
  refine zz_callIN (As := []) C ddX_init_78 wd_232 my_G_init ⟨rfl, mi_G_init⟩ (xG_init hG hg (d - 1) (by omega) hq86) (by omega) rfl rfl (Nat.le_of_ble_eq_true rfl) ⟨by rw [hR]; exact Nat.le_of_ble_eq_true rfl, by rw [hR]; exact Nat.le_of_ble_eq_true rfl⟩ ?_
  refine zz_kn (k1 := 107) (n1 := 7513) (by decide) (by decide) ?_
  obtain ⟨h87, h⟩ := gdN h
  obtain ⟨h88, h⟩ := gdN h
  refine zz_aastore (t := 105) (tc := 5) C ddX_init_81 rfl (by decide) (fun _ => rfl) h87 h88 ?_
  refine zz_iinc (v := 4) (L1 := [(2, .int 4), (0, .ref v0), (1, .ref v1)]) C 0 ddX_init_82 rfl (by decide) N (by decide) rfl ?_
  refine zz_goto (tgt := 33) C ddX_init_85 rfl ?_
  refine zz_iload_n C 0 ddX_init_33 rfl rfl ?_
  refine zz_aload_n C 1 ddX_init_34 rfl rfl ?_
  obtain ⟨h89, h⟩ := gdN h
  obtain ⟨h90, h⟩ := gdN h
  refine zz_getr C ddX_init_35 fl_X_11 rfl h89 (of_decide_eq_true h90) ?_
  obtain ⟨h91, h⟩ := gdN h
  obtain ⟨h92, h⟩ := gdN h
  refine zz_alenV (v := 7) (t := 103) C ddX_init_38 (by decide) (fun _ => rfl) h91 (by rw [of_decide_eq_true h92]; rfl) ?_
  refine zz_icmp_ge (tgt := 88) C ddX_init_39 rfl (fun hc => absurd hc (by decide)) (fun hc => ?_)
  refine zz_aload_n C 1 ddX_init_42 rfl rfl ?_
  refine zz_getr C ddX_init_43 fl_X_11 rfl h89 (of_decide_eq_true h90) ?_
  refine zz_iload_n C 0 ddX_init_46 rfl rfl ?_
  obtain ⟨q93, hq93, h⟩ := bindN h
  refine zz_new C ddX_init_47 (t := 1) rfl rfl ⟨wd_227, wd_119, wd_6⟩ hg hq93 ⟨by rw [hR]; exact Nat.le_of_ble_eq_true rfl, by rw [hR]; exact Nat.le_of_ble_eq_true rfl⟩ ?_
  refine zz_kn (k1 := 108) (n1 := 7522) (by decide) (by decide) ?_
  refine zz_dup C ddX_init_50 rfl ?_
  refine zz_aload_n C 2 ddX_init_51 rfl rfl ?_
  obtain ⟨q94, hq94, h⟩ := bindN h
  refine zz_callI (As := [.ref v1]) C ddX_init_52 wd_230 my_H_init ⟨rfl, mi_H_init⟩ (xH_init hG hg (d - 1) (by omega) hq94) (by omega) rfl rfl (Nat.le_of_ble_eq_true rfl) ⟨by rw [hR]; exact Nat.le_of_ble_eq_true rfl, by rw [hR]; exact Nat.le_of_ble_eq_true rfl⟩ ?_
  refine zz_kn (k1 := 125) (n1 := 9232) (by decide) (by decide) ?_
  obtain ⟨h95, h⟩ := gdN h
  obtain ⟨h96, h⟩ := gdN h
  refine zz_aastore (t := 103) (tc := 1) C ddX_init_55 rfl (by decide) (fun _ => rfl) h95 h96 ?_
  refine zz_aload_n C 1 ddX_init_56 rfl rfl ?_
  obtain ⟨h97, h⟩ := gdN h
  obtain ⟨h98, h⟩ := gdN h
  refine zz_getr C ddX_init_57 fl_X_19 rfl h97 (of_decide_eq_true h98) ?_
  refine zz_iload_n C 0 ddX_init_60 rfl rfl ?_
  obtain ⟨q99, hq99, h⟩ := bindN h
  refine zz_new C ddX_init_61 (t := 5) rfl rfl ⟨wd_228, wd_231, wd_12⟩ hg hq99 ⟨by rw [hR]; exact Nat.le_of_ble_eq_true rfl, by rw [hR]; exact Nat.le_of_ble_eq_true rfl⟩ ?_
  refine zz_kn (k1 := 126) (n1 := 9237) (by decide) (by decide) ?_
  refine zz_dup C ddX_init_64 rfl ?_
  obtain ⟨q100, hq100, h⟩ := bindN h
  refine zz_callIN (As := []) C ddX_init_65 wd_232 my_G_init ⟨rfl, mi_G_init⟩ (xG_init hG hg (d - 1) (by omega) hq100) (by omega) rfl rfl (Nat.le_of_ble_eq_true rfl) ⟨by rw [hR]; exact Nat.le_of_ble_eq_true rfl, by rw [hR]; exact Nat.le_of_ble_eq_true rfl⟩ ?_
  refine zz_kn (k1 := 129) (n1 := 9309) (by decide) (by decide) ?_
  obtain ⟨h101, h⟩ := gdN h
  obtain ⟨h102, h⟩ := gdN h
  refine zz_aastore (t := 105) (tc := 5) C ddX_init_68 rfl (by decide) (fun _ => rfl) h101 h102 ?_
  refine zz_aload_n C 1 ddX_init_69 rfl rfl ?_
  obtain ⟨h103, h⟩ := gdN h
  obtain ⟨h104, h⟩ := gdN h
  refine zz_getr C ddX_init_70 fl_X_23 rfl h103 (of_decide_eq_true h104) ?_
  refine zz_iload_n C 0 ddX_init_73 rfl rfl ?_
  obtain ⟨q105, hq105, h⟩ := bindN h
  refine zz_new C ddX_init_74 (t := 5) rfl rfl ⟨wd_228, wd_231, wd_12⟩ hg hq105 ⟨by rw [hR]; exact Nat.le_of_ble_eq_true rfl, by rw [hR]; exact Nat.le_of_ble_eq_true rfl⟩ ?_
  refine zz_kn (k1 := 130) (n1 := 9314) (by decide) (by decide) ?_
  refine zz_dup C ddX_init_77 rfl ?_
  obtain ⟨q106, hq106, h⟩ := bindN h
  refine zz_callIN (As := []) C ddX_init_78 wd_232 my_G_init ⟨rfl, mi_G_init⟩ (xG_init hG hg (d - 1) (by omega) hq106) (by omega) rfl rfl (Nat.le_of_ble_eq_true rfl) ⟨by rw [hR]; exact Nat.le_of_ble_eq_true rfl, by rw [hR]; exact Nat.le_of_ble_eq_true rfl⟩ ?_
  refine zz_kn (k1 := 133) (n1 := 9386) (by decide) (by decide) ?_
  obtain ⟨h107, h⟩ := gdN h
  obtain ⟨h108, h⟩ := gdN h
  refine zz_aastore (t := 105) (tc := 5) C ddX_init_81 rfl (by decide) (fun _ => rfl) h107 h108 ?_
  refine zz_iinc (v := 5) (L1 := [(2, .int 5), (0, .ref v0), (1, .ref v1)]) C 0 ddX_init_82 rfl (by decide) N (by decide) rfl ?_
  refine zz_goto (tgt := 33) C ddX_init_85 rfl ?_
  refine zz_iload_n C 0 ddX_init_33 rfl rfl ?_
  refine zz_aload_n C 1 ddX_init_34 rfl rfl ?_
  obtain ⟨h109, h⟩ := gdN h
  obtain ⟨h110, h⟩ := gdN h
  refine zz_getr C ddX_init_35 fl_X_11 rfl h109 (of_decide_eq_true h110) ?_
  obtain ⟨h111, h⟩ := gdN h
  obtain ⟨h112, h⟩ := gdN h
  refine zz_alenV (v := 7) (t := 103) C ddX_init_38 (by decide) (fun _ => rfl) h111 (by rw [of_decide_eq_true h112]; rfl) ?_
  refine zz_icmp_ge (tgt := 88) C ddX_init_39 rfl (fun hc => absurd hc (by decide)) (fun hc => ?_)
  refine zz_aload_n C 1 ddX_init_42 rfl rfl ?_
  refine zz_getr C ddX_init_43 fl_X_11 rfl h109 (of_decide_eq_true h110) ?_
  refine zz_iload_n C 0 ddX_init_46 rfl rfl ?_
  obtain ⟨q113, hq113, h⟩ := bindN h
  refine zz_new C ddX_init_47 (t := 1) rfl rfl ⟨wd_227, wd_119, wd_6⟩ hg hq113 ⟨by rw [hR]; exact Nat.le_of_ble_eq_true rfl, by rw [hR]; exact Nat.le_of_ble_eq_true rfl⟩ ?_
  refine zz_kn (k1 := 134) (n1 := 9395) (by decide) (by decide) ?_
  refine zz_dup C ddX_init_50 rfl ?_
  refine zz_aload_n C 2 ddX_init_51 rfl rfl ?_
  obtain ⟨q114, hq114, h⟩ := bindN h
  refine zz_callI (As := [.ref v1]) C ddX_init_52 wd_230 my_H_init ⟨rfl, mi_H_init⟩ (xH_init hG hg (d - 1) (by omega) hq114) (by omega) rfl rfl (Nat.le_of_ble_eq_true rfl) ⟨by rw [hR]; exact Nat.le_of_ble_eq_true rfl, by rw [hR]; exact Nat.le_of_ble_eq_true rfl⟩ ?_
  refine zz_kn (k1 := 151) (n1 := 11105) (by decide) (by decide) ?_
  obtain ⟨h115, h⟩ := gdN h
  obtain ⟨h116, h⟩ := gdN h
  refine zz_aastore (t := 103) (tc := 1) C ddX_init_55 rfl (by decide) (fun _ => rfl) h115 h116 ?_
  refine zz_aload_n C 1 ddX_init_56 rfl rfl ?_
  obtain ⟨h117, h⟩ := gdN h
  obtain ⟨h118, h⟩ := gdN h
  refine zz_getr C ddX_init_57 fl_X_19 rfl h117 (of_decide_eq_true h118) ?_
  refine zz_iload_n C 0 ddX_init_60 rfl rfl ?_
  obtain ⟨q119, hq119, h⟩ := bindN h
  refine zz_new C ddX_init_61 (t := 5) rfl rfl ⟨wd_228, wd_231, wd_12⟩ hg hq119 ⟨by rw [hR]; exact Nat.le_of_ble_eq_true rfl, by rw [hR]; exact Nat.le_of_ble_eq_true rfl⟩ ?_
  refine zz_kn (k1 := 152) (n1 := 11110) (by decide) (by decide) ?_
  refine zz_dup C ddX_init_64 rfl ?_
  obtain ⟨q120, hq120, h⟩ := bindN h
  refine zz_callIN (As := []) C ddX_init_65 wd_232 my_G_init ⟨rfl, mi_G_init⟩ (xG_init hG hg (d - 1) (by omega) hq120) (by omega) rfl rfl (Nat.le_of_ble_eq_true rfl) ⟨by rw [hR]; exact Nat.le_of_ble_eq_true rfl, by rw [hR]; exact Nat.le_of_ble_eq_true rfl⟩ ?_
  refine zz_kn (k1 := 155) (n1 := 11182) (by decide) (by decide) ?_
  obtain ⟨h121, h⟩ := gdN h
  obtain ⟨h122, h⟩ := gdN h
  refine zz_aastore (t := 105) (tc := 5) C ddX_init_68 rfl (by decide) (fun _ => rfl) h121 h122 ?_
  refine zz_aload_n C 1 ddX_init_69 rfl rfl ?_
  obtain ⟨h123, h⟩ := gdN h
  obtain ⟨h124, h⟩ := gdN h
  refine zz_getr C ddX_init_70 fl_X_23 rfl h123 (of_decide_eq_true h124) ?_
  refine zz_iload_n C 0 ddX_init_73 rfl rfl ?_
  obtain ⟨q125, hq125, h⟩ := bindN h
  refine zz_new C ddX_init_74 (t := 5) rfl rfl ⟨wd_228, wd_231, wd_12⟩ hg hq125 ⟨by rw [hR]; exact Nat.le_of_ble_eq_true rfl, by rw [hR]; exact Nat.le_of_ble_eq_true rfl⟩ ?_
  refine zz_kn (k1 := 156) (n1 := 11187) (by decide) (by decide) ?_
  refine zz_dup C ddX_init_77 rfl ?_
  obtain ⟨q126, hq126, h⟩ := bindN h
  refine zz_callIN (As := []) C ddX_init_78 wd_232 my_G_init ⟨rfl, mi_G_init⟩ (xG_init hG hg (d - 1) (by omega) hq126) (by omega) rfl rfl (Nat.le_of_ble_eq_true rfl) ⟨by rw [hR]; exact Nat.le_of_ble_eq_true rfl, by rw [hR]; exact Nat.le_of_ble_eq_true rfl⟩ ?_
  refine zz_kn (k1 := 159) (n1 := 11259) (by decide) (by decide) ?_
  obtain ⟨h127, h⟩ := gdN h
  obtain ⟨h128, h⟩ := gdN h
  refine zz_aastore (t := 105) (tc := 5) C ddX_init_81 rfl (by decide) (fun _ => rfl) h127 h128 ?_
  refine zz_iinc (v := 6) (L1 := [(2, .int 6), (0, .ref v0), (1, .ref v1)]) C 0 ddX_init_82 rfl (by decide) N (by decide) rfl ?_
  refine zz_goto (tgt := 33) C ddX_init_85 rfl ?_
  refine zz_iload_n C 0 ddX_init_33 rfl rfl ?_
  refine zz_aload_n C 1 ddX_init_34 rfl rfl ?_
  obtain ⟨h129, h⟩ := gdN h
  obtain ⟨h130, h⟩ := gdN h
  refine zz_getr C ddX_init_35 fl_X_11 rfl h129 (of_decide_eq_true h130) ?_
  obtain ⟨h131, h⟩ := gdN h
  obtain ⟨h132, h⟩ := gdN h
  refine zz_alenV (v := 7) (t := 103) C ddX_init_38 (by decide) (fun _ => rfl) h131 (by rw [of_decide_eq_true h132]; rfl) ?_
  refine zz_icmp_ge (tgt := 88) C ddX_init_39 rfl (fun hc => absurd hc (by decide)) (fun hc => ?_)
  refine zz_aload_n C 1 ddX_init_42 rfl rfl ?_
  refine zz_getr C ddX_init_43 fl_X_11 rfl h129 (of_decide_eq_true h130) ?_
  refine zz_iload_n C 0 ddX_init_46 rfl rfl ?_
  obtain ⟨q133, hq133, h⟩ := bindN h
  refine zz_new C ddX_init_47 (t := 1) rfl rfl ⟨wd_227, wd_119, wd_6⟩ hg hq133 ⟨by rw [hR]; exact Nat.le_of_ble_eq_true rfl, by rw [hR]; exact Nat.le_of_ble_eq_true rfl⟩ ?_
  refine zz_kn (k1 := 160) (n1 := 11268) (by decide) (by decide) ?_
  refine zz_dup C ddX_init_50 rfl ?_
  refine zz_aload_n C 2 ddX_init_51 rfl rfl ?_
  obtain ⟨q134, hq134, h⟩ := bindN h
  refine zz_callI (As := [.ref v1]) C ddX_init_52 wd_230 my_H_init ⟨rfl, mi_H_init⟩ (xH_init hG hg (d - 1) (by omega) hq134) (by omega) rfl rfl (Nat.le_of_ble_eq_true rfl) ⟨by rw [hR]; exact Nat.le_of_ble_eq_true rfl, by rw [hR]; exact Nat.le_of_ble_eq_true rfl⟩ ?_
  refine zz_kn (k1 := 177) (n1 := 12978) (by decide) (by decide) ?_
  obtain ⟨h135, h⟩ := gdN h
  obtain ⟨h136, h⟩ := gdN h
  refine zz_aastore (t := 103) (tc := 1) C ddX_init_55 rfl (by decide) (fun _ => rfl) h135 h136 ?_
  refine zz_aload_n C 1 ddX_init_56 rfl rfl ?_
  obtain ⟨h137, h⟩ := gdN h
  obtain ⟨h138, h⟩ := gdN h
  refine zz_getr C ddX_init_57 fl_X_19 rfl h137 (of_decide_eq_true h138) ?_
  refine zz_iload_n C 0 ddX_init_60 rfl rfl ?_
  obtain ⟨q139, hq139, h⟩ := bindN h
  refine zz_new C ddX_init_61 (t := 5) rfl rfl ⟨wd_228, wd_231, wd_12⟩ hg hq139 ⟨by rw [hR]; exact Nat.le_of_ble_eq_true rfl, by rw [hR]; exact Nat.le_of_ble_eq_true rfl⟩ ?_
  refine zz_kn (k1 := 178) (n1 := 12983) (by decide) (by decide) ?_
  refine zz_dup C ddX_init_64 rfl ?_
  obtain ⟨q140, hq140, h⟩ := bindN h
  refine zz_callIN (As := []) C ddX_init_65 wd_232 my_G_init ⟨rfl, mi_G_init⟩ (xG_init hG hg (d - 1) (by omega) hq140) (by omega) rfl rfl (Nat.le_of_ble_eq_true rfl) ⟨by rw [hR]; exact Nat.le_of_ble_eq_true rfl, by rw [hR]; exact Nat.le_of_ble_eq_true rfl⟩ ?_
  refine zz_kn (k1 := 181) (n1 := 13055) (by decide) (by decide) ?_
  obtain ⟨h141, h⟩ := gdN h
  obtain ⟨h142, h⟩ := gdN h
  refine zz_aastore (t := 105) (tc := 5) C ddX_init_68 rfl (by decide) (fun _ => rfl) h141 h142 ?_
  refine zz_aload_n C 1 ddX_init_69 rfl rfl ?_
  obtain ⟨h143, h⟩ := gdN h
  obtain ⟨h144, h⟩ := gdN h
  refine zz_getr C ddX_init_70 fl_X_23 rfl h143 (of_decide_eq_true h144) ?_
  refine zz_iload_n C 0 ddX_init_73 rfl rfl ?_
  obtain ⟨q145, hq145, h⟩ := bindN h
  refine zz_new C ddX_init_74 (t := 5) rfl rfl ⟨wd_228, wd_231, wd_12⟩ hg hq145 ⟨by rw [hR]; exact Nat.le_of_ble_eq_true rfl, by rw [hR]; exact Nat.le_of_ble_eq_true rfl⟩ ?_
  refine zz_kn (k1 := 182) (n1 := 13060) (by decide) (by decide) ?_
  refine zz_dup C ddX_init_77 rfl ?_
  obtain ⟨q146, hq146, h⟩ := bindN h
  refine zz_callIN (As := []) C ddX_init_78 wd_232 my_G_init ⟨rfl, mi_G_init⟩ (xG_init hG hg (d - 1) (by omega) hq146) (by omega) rfl rfl (Nat.le_of_ble_eq_true rfl) ⟨by rw [hR]; exact Nat.le_of_ble_eq_true rfl, by rw [hR]; exact Nat.le_of_ble_eq_true rfl⟩ ?_
  refine zz_kn (k1 := 185) (n1 := 13132) (by decide) (by decide) ?_
  obtain ⟨h147, h⟩ := gdN h
  obtain ⟨h148, h⟩ := gdN h
  refine zz_aastore (t := 105) (tc := 5) C ddX_init_81 rfl (by decide) (fun _ => rfl) h147 h148 ?_
  refine zz_iinc (v := 7) (L1 := [(2, .int 7), (0, .ref v0), (1, .ref v1)]) C 0 ddX_init_82 rfl (by decide) N (by decide) rfl ?_
  refine zz_goto (tgt := 33) C ddX_init_85 rfl ?_
  refine zz_iload_n C 0 ddX_init_33 rfl rfl ?_
  refine zz_aload_n C 1 ddX_init_34 rfl rfl ?_
  obtain ⟨h149, h⟩ := gdN h
  obtain ⟨h150, h⟩ := gdN h
  refine zz_getr C ddX_init_35 fl_X_11 rfl h149 (of_decide_eq_true h150) ?_
  obtain ⟨h151, h⟩ := gdN h
  obtain ⟨h152, h⟩ := gdN h
  refine zz_alenV (v := 7) (t := 103) C ddX_init_38 (by decide) (fun _ => rfl) h151 (by rw [of_decide_eq_true h152]; rfl) ?_
  refine zz_icmp_ge (tgt := 88) C ddX_init_39 rfl (fun hc => ?_) (fun hc => absurd hc (by decide))
  refine zz_aload_n C 1 ddX_init_88 rfl rfl ?_
  obtain ⟨q153, hq153, h⟩ := bindN h
  refine zz_new C ddX_init_89 (t := 8) rfl rfl ⟨wd_252, wd_91, wd_5⟩ hg hq153 ⟨by rw [hR]; exact Nat.le_of_ble_eq_true rfl, by rw [hR]; exact Nat.le_of_ble_eq_true rfl⟩ ?_
  refine zz_kn (k1 := 186) (n1 := 13136) (by decide) (by decide) ?_
  refine zz_dup C ddX_init_92 rfl ?_
  obtain ⟨q154, hq154, h⟩ := bindN h
  refine zz_callIN (As := []) C ddX_init_93 wd_253 my_S_init ⟨rfl, mi_S_init⟩ (xS_init hG hg (d - 1) (by omega) hq154) (by omega) rfl rfl (Nat.le_of_ble_eq_true rfl) ⟨by rw [hR]; exact Nat.le_of_ble_eq_true rfl, by rw [hR]; exact Nat.le_of_ble_eq_true rfl⟩ ?_
  refine zz_kn (k1 := 189) (n1 := 13208) (by decide) (by decide) ?_
  obtain ⟨h155, h⟩ := gdN h
  obtain ⟨h156, h⟩ := gdN h
  refine zz_putr C ddX_init_96 fl_X_33 (Or.inl rfl) rfl (fun _ => rfl) (fun _ => rfl) h155 (of_decide_eq_true h156) ?_
  refine zz_aload_n C 1 ddX_init_99 rfl rfl ?_
  refine zz_aload_n C 1 ddX_init_100 rfl rfl ?_
  obtain ⟨h157, h⟩ := gdN h
  refine zz_getr C ddX_init_101 fl_X_33 rfl h155 (of_decide_eq_true h157) ?_
  refine zz_putr C ddX_init_104 fl_X_37 (Or.inl rfl) rfl (fun _ => rfl) (fun _ => rfl) h155 (of_decide_eq_true h157) ?_
  obtain rfl := Option.some.inj h
  exact zz_vret C E ddX_init_107
theorem ddA_init_0 : decode cA_init 0 = .ok (.aload_n 0, 1) := by decide +kernel
theorem ddA_init_1 : decode cA_init 1 = .ok (.invokespecial 3, 3) := by decide +kernel
theorem ddA_init_4 : decode cA_init 4 = .ok (.aload_n 0, 1) := by decide +kernel
theorem ddA_init_5 : decode cA_init 5 = .ok (.new 9, 3) := by decide +kernel
theorem ddA_init_8 : decode cA_init 8 = .ok (.dup, 1) := by decide +kernel
theorem ddA_init_9 : decode cA_init 9 = .ok (.invokespecial 11, 3) := by decide +kernel
theorem ddA_init_12 : decode cA_init 12 = .ok (.putfield 12, 3) := by decide +kernel
theorem ddA_init_15 : decode cA_init 15 = .ok (.aload_n 0, 1) := by decide +kernel
theorem ddA_init_16 : decode cA_init 16 = .ok (.new 16, 3) := by decide +kernel
theorem ddA_init_19 : decode cA_init 19 = .ok (.dup, 1) := by decide +kernel
theorem ddA_init_20 : decode cA_init 20 = .ok (.aload_n 0, 1) := by decide +kernel
theorem ddA_init_21 : decode cA_init 21 = .ok (.getfield 12, 3) := by decide +kernel
theorem ddA_init_24 : decode cA_init 24 = .ok (.invokespecial 18, 3) := by decide +kernel
theorem ddA_init_27 : decode cA_init 27 = .ok (.putfield 21, 3) := by decide +kernel
theorem ddA_init_30 : decode cA_init 30 = .ok (.aload_n 0, 1) := by decide +kernel
theorem ddA_init_31 : decode cA_init 31 = .ok (.new 25, 3) := by decide +kernel
theorem ddA_init_34 : decode cA_init 34 = .ok (.dup, 1) := by decide +kernel
theorem ddA_init_35 : decode cA_init 35 = .ok (.invokespecial 27, 3) := by decide +kernel
theorem ddA_init_38 : decode cA_init 38 = .ok (.putfield 28, 3) := by decide +kernel
theorem ddA_init_41 : decode cA_init 41 = .ok (.aload_n 0, 1) := by decide +kernel
theorem ddA_init_42 : decode cA_init 42 = .ok (.new 25, 3) := by decide +kernel
theorem ddA_init_45 : decode cA_init 45 = .ok (.dup, 1) := by decide +kernel
theorem ddA_init_46 : decode cA_init 46 = .ok (.invokespecial 27, 3) := by decide +kernel
theorem ddA_init_49 : decode cA_init 49 = .ok (.putfield 32, 3) := by decide +kernel
theorem ddA_init_52 : decode cA_init 52 = .ok (.aload_n 0, 1) := by decide +kernel
theorem ddA_init_53 : decode cA_init 53 = .ok (.iconst 4, 1) := by decide +kernel
theorem ddA_init_54 : decode cA_init 54 = .ok (.anewarray 35, 3) := by decide +kernel
theorem ddA_init_57 : decode cA_init 57 = .ok (.putfield 37, 3) := by decide +kernel
theorem ddA_init_60 : decode cA_init 60 = .ok (.iconst 0, 1) := by decide +kernel
theorem ddA_init_61 : decode cA_init 61 = .ok (.istore_n 1, 1) := by decide +kernel
theorem ddA_init_62 : decode cA_init 62 = .ok (.iload_n 1, 1) := by decide +kernel
theorem ddA_init_63 : decode cA_init 63 = .ok (.iconst 4, 1) := by decide +kernel
theorem ddA_init_64 : decode cA_init 64 = .ok (.if_icmp .ge 22, 3) := by decide +kernel
theorem ddA_init_67 : decode cA_init 67 = .ok (.aload_n 0, 1) := by decide +kernel
theorem ddA_init_68 : decode cA_init 68 = .ok (.getfield 37, 3) := by decide +kernel
theorem ddA_init_71 : decode cA_init 71 = .ok (.iload_n 1, 1) := by decide +kernel
theorem ddA_init_72 : decode cA_init 72 = .ok (.new 35, 3) := by decide +kernel
theorem ddA_init_75 : decode cA_init 75 = .ok (.dup, 1) := by decide +kernel
theorem ddA_init_76 : decode cA_init 76 = .ok (.invokespecial 41, 3) := by decide +kernel
theorem ddA_init_79 : decode cA_init 79 = .ok (.aastore, 1) := by decide +kernel
theorem ddA_init_80 : decode cA_init 80 = .ok (.iinc 1 1, 3) := by decide +kernel
theorem ddA_init_83 : decode cA_init 83 = .ok (.goto (-21), 3) := by decide +kernel
theorem ddA_init_86 : decode cA_init 86 = .ok (.aload_n 0, 1) := by decide +kernel
theorem ddA_init_87 : decode cA_init 87 = .ok (.iconst 0, 1) := by decide +kernel
theorem ddA_init_88 : decode cA_init 88 = .ok (.putfield 42, 3) := by decide +kernel
theorem ddA_init_91 : decode cA_init 91 = .ok (.aload_n 0, 1) := by decide +kernel
theorem ddA_init_92 : decode cA_init 92 = .ok (.new 35, 3) := by decide +kernel
theorem ddA_init_95 : decode cA_init 95 = .ok (.dup, 1) := by decide +kernel
theorem ddA_init_96 : decode cA_init 96 = .ok (.invokespecial 41, 3) := by decide +kernel
theorem ddA_init_99 : decode cA_init 99 = .ok (.putfield 46, 3) := by decide +kernel
theorem ddA_init_102 : decode cA_init 102 = .ok (.aload_n 0, 1) := by decide +kernel
theorem ddA_init_103 : decode cA_init 103 = .ok (.new 50, 3) := by decide +kernel
theorem ddA_init_106 : decode cA_init 106 = .ok (.dup, 1) := by decide +kernel
theorem ddA_init_107 : decode cA_init 107 = .ok (.aload_n 0, 1) := by decide +kernel
theorem ddA_init_108 : decode cA_init 108 = .ok (.getfield 28, 3) := by decide +kernel
theorem ddA_init_111 : decode cA_init 111 = .ok (.invokespecial 52, 3) := by decide +kernel
theorem ddA_init_114 : decode cA_init 114 = .ok (.putfield 55, 3) := by decide +kernel
theorem ddA_init_117 : decode cA_init 117 = .ok (.aload_n 0, 1) := by decide +kernel
theorem ddA_init_118 : decode cA_init 118 = .ok (.new 59, 3) := by decide +kernel
theorem ddA_init_121 : decode cA_init 121 = .ok (.dup, 1) := by decide +kernel
theorem ddA_init_122 : decode cA_init 122 = .ok (.aload_n 0, 1) := by decide +kernel
theorem ddA_init_123 : decode cA_init 123 = .ok (.getfield 28, 3) := by decide +kernel
theorem ddA_init_126 : decode cA_init 126 = .ok (.invokespecial 61, 3) := by decide +kernel
theorem ddA_init_129 : decode cA_init 129 = .ok (.putfield 62, 3) := by decide +kernel
theorem ddA_init_132 : decode cA_init 132 = .ok (.aload_n 0, 1) := by decide +kernel
theorem ddA_init_133 : decode cA_init 133 = .ok (.new 50, 3) := by decide +kernel
theorem ddA_init_136 : decode cA_init 136 = .ok (.dup, 1) := by decide +kernel
theorem ddA_init_137 : decode cA_init 137 = .ok (.aload_n 0, 1) := by decide +kernel
theorem ddA_init_138 : decode cA_init 138 = .ok (.getfield 28, 3) := by decide +kernel
theorem ddA_init_141 : decode cA_init 141 = .ok (.invokespecial 52, 3) := by decide +kernel
theorem ddA_init_144 : decode cA_init 144 = .ok (.putfield 66, 3) := by decide +kernel
theorem ddA_init_147 : decode cA_init 147 = .ok (.aload_n 0, 1) := by decide +kernel
theorem ddA_init_148 : decode cA_init 148 = .ok (.iconst 0, 1) := by decide +kernel
theorem ddA_init_149 : decode cA_init 149 = .ok (.putfield 69, 3) := by decide +kernel
theorem ddA_init_152 : decode cA_init 152 = .ok (.aload_n 0, 1) := by decide +kernel
theorem ddA_init_153 : decode cA_init 153 = .ok (.iconst 4, 1) := by decide +kernel
theorem ddA_init_154 : decode cA_init 154 = .ok (.newarray .int, 2) := by decide +kernel
theorem ddA_init_156 : decode cA_init 156 = .ok (.putfield 73, 3) := by decide +kernel
theorem ddA_init_159 : decode cA_init 159 = .ok (.aload_n 0, 1) := by decide +kernel
theorem ddA_init_160 : decode cA_init 160 = .ok (.new 77, 3) := by decide +kernel
theorem ddA_init_163 : decode cA_init 163 = .ok (.dup, 1) := by decide +kernel
theorem ddA_init_164 : decode cA_init 164 = .ok (.aload_n 0, 1) := by decide +kernel
theorem ddA_init_165 : decode cA_init 165 = .ok (.getfield 28, 3) := by decide +kernel
theorem ddA_init_168 : decode cA_init 168 = .ok (.invokespecial 79, 3) := by decide +kernel
theorem ddA_init_171 : decode cA_init 171 = .ok (.putfield 80, 3) := by decide +kernel
theorem ddA_init_174 : decode cA_init 174 = .ok (.aload_n 0, 1) := by decide +kernel
theorem ddA_init_175 : decode cA_init 175 = .ok (.new 50, 3) := by decide +kernel
theorem ddA_init_178 : decode cA_init 178 = .ok (.dup, 1) := by decide +kernel
theorem ddA_init_179 : decode cA_init 179 = .ok (.aload_n 0, 1) := by decide +kernel
theorem ddA_init_180 : decode cA_init 180 = .ok (.getfield 28, 3) := by decide +kernel
theorem ddA_init_183 : decode cA_init 183 = .ok (.invokespecial 52, 3) := by decide +kernel
theorem ddA_init_186 : decode cA_init 186 = .ok (.putfield 84, 3) := by decide +kernel
theorem ddA_init_189 : decode cA_init 189 = .ok (.aload_n 0, 1) := by decide +kernel
theorem ddA_init_190 : decode cA_init 190 = .ok (.new 87, 3) := by decide +kernel
theorem ddA_init_193 : decode cA_init 193 = .ok (.dup, 1) := by decide +kernel
theorem ddA_init_194 : decode cA_init 194 = .ok (.invokespecial 89, 3) := by decide +kernel
theorem ddA_init_197 : decode cA_init 197 = .ok (.putfield 90, 3) := by decide +kernel
theorem ddA_init_200 : decode cA_init 200 = .ok (.return_, 1) := by decide +kernel
set_option maxHeartbeats 8000000 in
set_option maxRecDepth 100000 in
theorem xA_init {G : GXM} {l : Launch} (hG : GokM G) (hg : G.2.2.2.2 = true) (d : Nat) (hd : 4 ≤ d) {v0 : Nat} {M : Mem} {q : Mem} (h : fA_init v0 M = some q) : ExM G l d 1001 (87915) yA_init cA_init 2 none [.ref v0] M none q := by
  refine ex_of hG (by decide +kernel) (Nat.le_of_ble_eq_true rfl) ?_
  intro X hl C E N hD hn
  have hR := EnM_R E
  show ZM G X 0 [(0, .ref v0)] [] M 0 0
  unfold fA_init at h
  refine zz_aload_n C 0 ddA_init_0 rfl rfl ?_
  refine zz_objInit C ddA_init_1 wd_30 ⟨wd_31, wd_32⟩ (by omega) (Nat.le_of_ble_eq_true rfl) ?_
  refine zz_aload_n C 0 ddA_init_4 rfl rfl ?_
  obtain ⟨q1, hq1, h⟩ := bindN h
  refine zz_new C ddA_init_5 (t := 9) rfl rfl ⟨wd_33, wd_34, wd_2⟩ hg hq1 ⟨by rw [hR]; exact Nat.le_of_ble_eq_true rfl, by rw [hR]; exact Nat.le_of_ble_eq_true rfl⟩ ?_
  refine zz_kn (k1 := 1) (n1 := 2) (by decide) (by decide) ?_
  refine zz_dup C ddA_init_8 rfl ?_
  obtain ⟨q2, hq2, h⟩ := bindN h
  refine zz_callIN (As := []) C ddA_init_9 wd_35 my_T_init ⟨rfl, mi_T_init⟩ (xT_init hG hg (d - 1) (by omega) hq2) (by omega) rfl rfl (Nat.le_of_ble_eq_true rfl) ⟨by rw [hR]; exact Nat.le_of_ble_eq_true rfl, by rw [hR]; exact Nat.le_of_ble_eq_true rfl⟩ ?_
  refine zz_kn (k1 := 2) (n1 := 242) (by decide) (by decide) ?_
  obtain ⟨h3, h⟩ := gdN h
  obtain ⟨h4, h⟩ := gdN h
  refine zz_putr C ddA_init_12 fl_A_12 (Or.inr ⟨hn, _, rfl, rfl⟩) rfl (fun _ => rfl) (fun _ => rfl) h3 (of_decide_eq_true h4) ?_
  refine zz_aload_n C 0 ddA_init_15 rfl rfl ?_
  obtain ⟨q5, hq5, h⟩ := bindN h
  refine zz_new C ddA_init_16 (t := 6) rfl rfl ⟨wd_50, wd_51, wd_3⟩ hg hq5 ⟨by rw [hR]; exact Nat.le_of_ble_eq_true rfl, by rw [hR]; exact Nat.le_of_ble_eq_true rfl⟩ ?_
  refine zz_kn (k1 := 3) (n1 := 245) (by decide) (by decide) ?_
  refine zz_dup C ddA_init_19 rfl ?_
  refine zz_aload_n C 0 ddA_init_20 rfl rfl ?_
  obtain ⟨h6, h⟩ := gdN h
  obtain ⟨h7, h⟩ := gdN h
  refine zz_getr C ddA_init_21 fl_A_12 rfl h6 (of_decide_eq_true h7) ?_
  obtain ⟨q8, hq8, h⟩ := bindN h
  refine zz_callI (As := [.ref (grM q5 v0 0)]) C ddA_init_24 wd_52 my_R_init ⟨rfl, mi_R_init⟩ (xR_init hG hg (d - 1) (by omega) hq8) (by omega) rfl rfl (Nat.le_of_ble_eq_true rfl) ⟨by rw [hR]; exact Nat.le_of_ble_eq_true rfl, by rw [hR]; exact Nat.le_of_ble_eq_true rfl⟩ ?_
  refine zz_kn (k1 := 3) (n1 := 245) (by decide) (by decide) ?_
  obtain ⟨h9, h⟩ := gdN h
  obtain ⟨h10, h⟩ := gdN h
  refine zz_putr C ddA_init_27 fl_A_21 (Or.inr ⟨hn, _, rfl, rfl⟩) rfl (fun _ => rfl) (fun _ => rfl) h9 (of_decide_eq_true h10) ?_
  refine zz_aload_n C 0 ddA_init_30 rfl rfl ?_
  obtain ⟨q11, hq11, h⟩ := bindN h
  refine zz_new C ddA_init_31 (t := 7) rfl rfl ⟨wd_68, wd_69, wd_4⟩ hg hq11 ⟨by rw [hR]; exact Nat.le_of_ble_eq_true rfl, by rw [hR]; exact Nat.le_of_ble_eq_true rfl⟩ ?_
  refine zz_kn (k1 := 4) (n1 := 248) (by decide) (by decide) ?_
  refine zz_dup C ddA_init_34 rfl ?_
  obtain ⟨q12, hq12, h⟩ := bindN h
  refine zz_callIN (As := []) C ddA_init_35 wd_70 my_U_init ⟨rfl, mi_U_init⟩ (xU_init hG hg (d - 1) (by omega) hq12) (by omega) rfl rfl (Nat.le_of_ble_eq_true rfl) ⟨by rw [hR]; exact Nat.le_of_ble_eq_true rfl, by rw [hR]; exact Nat.le_of_ble_eq_true rfl⟩ ?_
  refine zz_kn (k1 := 6) (n1 := 259) (by decide) (by decide) ?_
  obtain ⟨h13, h⟩ := gdN h
  obtain ⟨h14, h⟩ := gdN h
  refine zz_putr C ddA_init_38 fl_A_28 (Or.inr ⟨hn, _, rfl, rfl⟩) rfl (fun _ => rfl) (fun _ => rfl) h13 (of_decide_eq_true h14) ?_
  refine zz_aload_n C 0 ddA_init_41 rfl rfl ?_
  obtain ⟨q15, hq15, h⟩ := bindN h
  refine zz_new C ddA_init_42 (t := 7) rfl rfl ⟨wd_68, wd_69, wd_4⟩ hg hq15 ⟨by rw [hR]; exact Nat.le_of_ble_eq_true rfl, by rw [hR]; exact Nat.le_of_ble_eq_true rfl⟩ ?_
  refine zz_kn (k1 := 7) (n1 := 262) (by decide) (by decide) ?_
  refine zz_dup C ddA_init_45 rfl ?_
  obtain ⟨q16, hq16, h⟩ := bindN h
  refine zz_callIN (As := []) C ddA_init_46 wd_70 my_U_init ⟨rfl, mi_U_init⟩ (xU_init hG hg (d - 1) (by omega) hq16) (by omega) rfl rfl (Nat.le_of_ble_eq_true rfl) ⟨by rw [hR]; exact Nat.le_of_ble_eq_true rfl, by rw [hR]; exact Nat.le_of_ble_eq_true rfl⟩ ?_
  refine zz_kn (k1 := 9) (n1 := 273) (by decide) (by decide) ?_
  obtain ⟨h17, h⟩ := gdN h
  obtain ⟨h18, h⟩ := gdN h
  refine zz_putr C ddA_init_49 fl_A_32 (Or.inr ⟨hn, _, rfl, rfl⟩) rfl (fun _ => rfl) (fun _ => rfl) h17 (of_decide_eq_true h18) ?_
  refine zz_aload_n C 0 ddA_init_52 rfl rfl ?_
  refine zz_iconst (v := 4) C ddA_init_53 (by decide) ?_
  obtain ⟨q19, hq19, h⟩ := bindN h
  refine zz_newR (t := 104) C ddA_init_54 wd_89 wd_90 (by decide) (fun _ => rfl) hg (by decide) (by decide) hq19 ⟨by rw [hR]; exact Nat.le_of_ble_eq_true rfl, by rw [hR]; exact Nat.le_of_ble_eq_true rfl⟩ ?_
  refine zz_kn (k1 := 10) (n1 := 277) (by decide) (by decide) ?_
  obtain ⟨h20, h⟩ := gdN h
  obtain ⟨h21, h⟩ := gdN h
  refine zz_putr C ddA_init_57 fl_A_37 (Or.inr ⟨hn, _, rfl, rfl⟩) rfl (fun _ => rfl) (fun _ => rfl) h20 (of_decide_eq_true h21) ?_
  refine zz_iconst (v := 0) C ddA_init_60 (by decide) ?_
  refine zz_istore_n (L1 := [(1, .int 0), (0, .ref v0)]) C ddA_init_61 rfl N (by decide) rfl ?_
  refine zz_iload_n C 0 ddA_init_62 rfl rfl ?_
  refine zz_iconst (v := 4) C ddA_init_63 (by decide) ?_
  refine zz_icmp_ge (tgt := 86) C ddA_init_64 rfl (fun hc => absurd hc (by decide)) (fun hc => ?_)
  refine zz_aload_n C 1 ddA_init_67 rfl rfl ?_
  obtain ⟨h22, h⟩ := gdN h
  refine zz_getr C ddA_init_68 fl_A_37 rfl h20 (of_decide_eq_true h22) ?_
  refine zz_iload_n C 0 ddA_init_71 rfl rfl ?_
  obtain ⟨q23, hq23, h⟩ := bindN h
  refine zz_new C ddA_init_72 (t := 8) rfl rfl ⟨wd_89, wd_91, wd_5⟩ hg hq23 ⟨by rw [hR]; exact Nat.le_of_ble_eq_true rfl, by rw [hR]; exact Nat.le_of_ble_eq_true rfl⟩ ?_
  refine zz_kn (k1 := 11) (n1 := 281) (by decide) (by decide) ?_
  refine zz_dup C ddA_init_75 rfl ?_
  obtain ⟨q24, hq24, h⟩ := bindN h
  refine zz_callIN (As := []) C ddA_init_76 wd_92 my_S_init ⟨rfl, mi_S_init⟩ (xS_init hG hg (d - 1) (by omega) hq24) (by omega) rfl rfl (Nat.le_of_ble_eq_true rfl) ⟨by rw [hR]; exact Nat.le_of_ble_eq_true rfl, by rw [hR]; exact Nat.le_of_ble_eq_true rfl⟩ ?_
  refine zz_kn (k1 := 14) (n1 := 353) (by decide) (by decide) ?_
  obtain ⟨h25, h⟩ := gdN h
  obtain ⟨h26, h⟩ := gdN h
  refine zz_aastore (t := 104) (tc := 8) C ddA_init_79 rfl (by decide) (fun _ => rfl) h25 h26 ?_
  refine zz_iinc (v := 1) (L1 := [(1, .int 1), (0, .ref v0)]) C 0 ddA_init_80 rfl (by decide) N (by decide) rfl ?_
  refine zz_goto (tgt := 62) C ddA_init_83 rfl ?_
  refine zz_iload_n C 0 ddA_init_62 rfl rfl ?_
  refine zz_iconst (v := 4) C ddA_init_63 (by decide) ?_
  refine zz_icmp_ge (tgt := 86) C ddA_init_64 rfl (fun hc => absurd hc (by decide)) (fun hc => ?_)
  refine zz_aload_n C 1 ddA_init_67 rfl rfl ?_
  obtain ⟨h27, h⟩ := gdN h
  obtain ⟨h28, h⟩ := gdN h
  refine zz_getr C ddA_init_68 fl_A_37 rfl h27 (of_decide_eq_true h28) ?_
  refine zz_iload_n C 0 ddA_init_71 rfl rfl ?_
  obtain ⟨q29, hq29, h⟩ := bindN h
  refine zz_new C ddA_init_72 (t := 8) rfl rfl ⟨wd_89, wd_91, wd_5⟩ hg hq29 ⟨by rw [hR]; exact Nat.le_of_ble_eq_true rfl, by rw [hR]; exact Nat.le_of_ble_eq_true rfl⟩ ?_
  refine zz_kn (k1 := 15) (n1 := 357) (by decide) (by decide) ?_
  refine zz_dup C ddA_init_75 rfl ?_
  obtain ⟨q30, hq30, h⟩ := bindN h
  refine zz_callIN (As := []) C ddA_init_76 wd_92 my_S_init ⟨rfl, mi_S_init⟩ (xS_init hG hg (d - 1) (by omega) hq30) (by omega) rfl rfl (Nat.le_of_ble_eq_true rfl) ⟨by rw [hR]; exact Nat.le_of_ble_eq_true rfl, by rw [hR]; exact Nat.le_of_ble_eq_true rfl⟩ ?_
  refine zz_kn (k1 := 18) (n1 := 429) (by decide) (by decide) ?_
  obtain ⟨h31, h⟩ := gdN h
  obtain ⟨h32, h⟩ := gdN h
  refine zz_aastore (t := 104) (tc := 8) C ddA_init_79 rfl (by decide) (fun _ => rfl) h31 h32 ?_
  refine zz_iinc (v := 2) (L1 := [(1, .int 2), (0, .ref v0)]) C 0 ddA_init_80 rfl (by decide) N (by decide) rfl ?_
  refine zz_goto (tgt := 62) C ddA_init_83 rfl ?_
  refine zz_iload_n C 0 ddA_init_62 rfl rfl ?_
  refine zz_iconst (v := 4) C ddA_init_63 (by decide) ?_
  refine zz_icmp_ge (tgt := 86) C ddA_init_64 rfl (fun hc => absurd hc (by decide)) (fun hc => ?_)
  refine zz_aload_n C 1 ddA_init_67 rfl rfl ?_
  obtain ⟨h33, h⟩ := gdN h
  obtain ⟨h34, h⟩ := gdN h
  refine zz_getr C ddA_init_68 fl_A_37 rfl h33 (of_decide_eq_true h34) ?_
  refine zz_iload_n C 0 ddA_init_71 rfl rfl ?_
  obtain ⟨q35, hq35, h⟩ := bindN h
  refine zz_new C ddA_init_72 (t := 8) rfl rfl ⟨wd_89, wd_91, wd_5⟩ hg hq35 ⟨by rw [hR]; exact Nat.le_of_ble_eq_true rfl, by rw [hR]; exact Nat.le_of_ble_eq_true rfl⟩ ?_
  refine zz_kn (k1 := 19) (n1 := 433) (by decide) (by decide) ?_
  refine zz_dup C ddA_init_75 rfl ?_
  obtain ⟨q36, hq36, h⟩ := bindN h
  refine zz_callIN (As := []) C ddA_init_76 wd_92 my_S_init ⟨rfl, mi_S_init⟩ (xS_init hG hg (d - 1) (by omega) hq36) (by omega) rfl rfl (Nat.le_of_ble_eq_true rfl) ⟨by rw [hR]; exact Nat.le_of_ble_eq_true rfl, by rw [hR]; exact Nat.le_of_ble_eq_true rfl⟩ ?_
  refine zz_kn (k1 := 22) (n1 := 505) (by decide) (by decide) ?_
  obtain ⟨h37, h⟩ := gdN h
  obtain ⟨h38, h⟩ := gdN h
  refine zz_aastore (t := 104) (tc := 8) C ddA_init_79 rfl (by decide) (fun _ => rfl) h37 h38 ?_
  refine zz_iinc (v := 3) (L1 := [(1, .int 3), (0, .ref v0)]) C 0 ddA_init_80 rfl (by decide) N (by decide) rfl ?_
  refine zz_goto (tgt := 62) C ddA_init_83 rfl ?_
  refine zz_iload_n C 0 ddA_init_62 rfl rfl ?_
  refine zz_iconst (v := 4) C ddA_init_63 (by decide) ?_
  refine zz_icmp_ge (tgt := 86) C ddA_init_64 rfl (fun hc => absurd hc (by decide)) (fun hc => ?_)
  refine zz_aload_n C 1 ddA_init_67 rfl rfl ?_
  obtain ⟨h39, h⟩ := gdN h
  obtain ⟨h40, h⟩ := gdN h
  refine zz_getr C ddA_init_68 fl_A_37 rfl h39 (of_decide_eq_true h40) ?_
  refine zz_iload_n C 0 ddA_init_71 rfl rfl ?_
  obtain ⟨q41, hq41, h⟩ := bindN h
  refine zz_new C ddA_init_72 (t := 8) rfl rfl ⟨wd_89, wd_91, wd_5⟩ hg hq41 ⟨by rw [hR]; exact Nat.le_of_ble_eq_true rfl, by rw [hR]; exact Nat.le_of_ble_eq_true rfl⟩ ?_
  refine zz_kn (k1 := 23) (n1 := 509) (by decide) (by decide) ?_
  refine zz_dup C ddA_init_75 rfl ?_
  obtain ⟨q42, hq42, h⟩ := bindN h
  refine zz_callIN (As := []) C ddA_init_76 wd_92 my_S_init ⟨rfl, mi_S_init⟩ (xS_init hG hg (d - 1) (by omega) hq42) (by omega) rfl rfl (Nat.le_of_ble_eq_true rfl) ⟨by rw [hR]; exact Nat.le_of_ble_eq_true rfl, by rw [hR]; exact Nat.le_of_ble_eq_true rfl⟩ ?_
  refine zz_kn (k1 := 26) (n1 := 581) (by decide) (by decide) ?_
  obtain ⟨h43, h⟩ := gdN h
  obtain ⟨h44, h⟩ := gdN h
  refine zz_aastore (t := 104) (tc := 8) C ddA_init_79 rfl (by decide) (fun _ => rfl) h43 h44 ?_
  refine zz_iinc (v := 4) (L1 := [(1, .int 4), (0, .ref v0)]) C 0 ddA_init_80 rfl (by decide) N (by decide) rfl ?_
  refine zz_goto (tgt := 62) C ddA_init_83 rfl ?_
  refine zz_iload_n C 0 ddA_init_62 rfl rfl ?_
  refine zz_iconst (v := 4) C ddA_init_63 (by decide) ?_
  refine zz_icmp_ge (tgt := 86) C ddA_init_64 rfl (fun hc => ?_) (fun hc => absurd hc (by decide))
  refine zz_aload_n C 1 ddA_init_86 rfl rfl ?_
  refine zz_iconst (v := 0) C ddA_init_87 (by decide) ?_
  obtain ⟨h45, h⟩ := gdN h
  refine zz_puti C ddA_init_88 fl_A_42 rfl rfl rfl h45 ?_
  refine zz_aload_n C 1 ddA_init_91 rfl rfl ?_
  obtain ⟨q46, hq46, h⟩ := bindN h
  refine zz_new C ddA_init_92 (t := 8) rfl rfl ⟨wd_89, wd_91, wd_5⟩ hg hq46 ⟨by rw [hR]; exact Nat.le_of_ble_eq_true rfl, by rw [hR]; exact Nat.le_of_ble_eq_true rfl⟩ ?_
  refine zz_kn (k1 := 27) (n1 := 585) (by decide) (by decide) ?_
  refine zz_dup C ddA_init_95 rfl ?_
  obtain ⟨q47, hq47, h⟩ := bindN h
  refine zz_callIN (As := []) C ddA_init_96 wd_92 my_S_init ⟨rfl, mi_S_init⟩ (xS_init hG hg (d - 1) (by omega) hq47) (by omega) rfl rfl (Nat.le_of_ble_eq_true rfl) ⟨by rw [hR]; exact Nat.le_of_ble_eq_true rfl, by rw [hR]; exact Nat.le_of_ble_eq_true rfl⟩ ?_
  refine zz_kn (k1 := 30) (n1 := 657) (by decide) (by decide) ?_
  obtain ⟨h48, h⟩ := gdN h
  obtain ⟨h49, h⟩ := gdN h
  refine zz_putr C ddA_init_99 fl_A_46 (Or.inr ⟨hn, _, rfl, rfl⟩) rfl (fun _ => rfl) (fun _ => rfl) h48 (of_decide_eq_true h49) ?_
  refine zz_aload_n C 1 ddA_init_102 rfl rfl ?_
  obtain ⟨q50, hq50, h⟩ := bindN h
  refine zz_new C ddA_init_103 (t := 1) rfl rfl ⟨wd_118, wd_119, wd_6⟩ hg hq50 ⟨by rw [hR]; exact Nat.le_of_ble_eq_true rfl, by rw [hR]; exact Nat.le_of_ble_eq_true rfl⟩ ?_
  refine zz_kn (k1 := 31) (n1 := 666) (by decide) (by decide) ?_
  refine zz_dup C ddA_init_106 rfl ?_
  refine zz_aload_n C 1 ddA_init_107 rfl rfl ?_
  obtain ⟨h51, h⟩ := gdN h
  obtain ⟨h52, h⟩ := gdN h
  refine zz_getr C ddA_init_108 fl_A_28 rfl h51 (of_decide_eq_true h52) ?_
  obtain ⟨q53, hq53, h⟩ := bindN h
  refine zz_callI (As := [.ref (grM q50 v0 2)]) C ddA_init_111 wd_120 my_H_init ⟨rfl, mi_H_init⟩ (xH_init hG hg (d - 1) (by omega) hq53) (by omega) rfl rfl (Nat.le_of_ble_eq_true rfl) ⟨by rw [hR]; exact Nat.le_of_ble_eq_true rfl, by rw [hR]; exact Nat.le_of_ble_eq_true rfl⟩ ?_
  refine zz_kn (k1 := 48) (n1 := 2376) (by decide) (by decide) ?_
  obtain ⟨h54, h⟩ := gdN h
  obtain ⟨h55, h⟩ := gdN h
  refine zz_putr C ddA_init_114 fl_A_55 (Or.inr ⟨hn, _, rfl, rfl⟩) rfl (fun _ => rfl) (fun _ => rfl) h54 (of_decide_eq_true h55) ?_
  refine zz_aload_n C 1 ddA_init_117 rfl rfl ?_
  obtain ⟨q56, hq56, h⟩ := bindN h
  refine zz_new C ddA_init_118 (t := 4) rfl rfl ⟨wd_201, wd_202, wd_10⟩ hg hq56 ⟨by rw [hR]; exact Nat.le_of_ble_eq_true rfl, by rw [hR]; exact Nat.le_of_ble_eq_true rfl⟩ ?_
  refine zz_kn (k1 := 49) (n1 := 2379) (by decide) (by decide) ?_
  refine zz_dup C ddA_init_121 rfl ?_
  refine zz_aload_n C 1 ddA_init_122 rfl rfl ?_
  obtain ⟨h57, h⟩ := gdN h
  obtain ⟨h58, h⟩ := gdN h
  refine zz_getr C ddA_init_123 fl_A_28 rfl h57 (of_decide_eq_true h58) ?_
  obtain ⟨q59, hq59, h⟩ := bindN h
  refine zz_callI (As := [.ref (grM q56 v0 2)]) C ddA_init_126 wd_203 my_P_init ⟨rfl, mi_P_init⟩ (xP_init hG hg (d - 1) (by omega) hq59) (by omega) rfl rfl (Nat.le_of_ble_eq_true rfl) ⟨by rw [hR]; exact Nat.le_of_ble_eq_true rfl, by rw [hR]; exact Nat.le_of_ble_eq_true rfl⟩ ?_
  refine zz_kn (k1 := 770) (n1 := 71179) (by decide) (by decide) ?_
  obtain ⟨h60, h⟩ := gdN h
  obtain ⟨h61, h⟩ := gdN h
  refine zz_putr C ddA_init_129 fl_A_62 (Or.inr ⟨hn, _, rfl, rfl⟩) rfl (fun _ => rfl) (fun _ => rfl) h60 (of_decide_eq_true h61) ?_
  refine zz_aload_n C 1 ddA_init_132 rfl rfl ?_
  obtain ⟨q62, hq62, h⟩ := bindN h
  refine zz_new C ddA_init_133 (t := 1) rfl rfl ⟨wd_118, wd_119, wd_6⟩ hg hq62 ⟨by rw [hR]; exact Nat.le_of_ble_eq_true rfl, by rw [hR]; exact Nat.le_of_ble_eq_true rfl⟩ ?_
  refine zz_kn (k1 := 771) (n1 := 71188) (by decide) (by decide) ?_
  refine zz_dup C ddA_init_136 rfl ?_
  refine zz_aload_n C 1 ddA_init_137 rfl rfl ?_
  obtain ⟨h63, h⟩ := gdN h
  obtain ⟨h64, h⟩ := gdN h
  refine zz_getr C ddA_init_138 fl_A_28 rfl h63 (of_decide_eq_true h64) ?_
  obtain ⟨q65, hq65, h⟩ := bindN h
  refine zz_callI (As := [.ref (grM q62 v0 2)]) C ddA_init_141 wd_120 my_H_init ⟨rfl, mi_H_init⟩ (xH_init hG hg (d - 1) (by omega) hq65) (by omega) rfl rfl (Nat.le_of_ble_eq_true rfl) ⟨by rw [hR]; exact Nat.le_of_ble_eq_true rfl, by rw [hR]; exact Nat.le_of_ble_eq_true rfl⟩ ?_
  refine zz_kn (k1 := 788) (n1 := 72898) (by decide) (by decide) ?_
  obtain ⟨h66, h⟩ := gdN h
  obtain ⟨h67, h⟩ := gdN h
  refine zz_putr C ddA_init_144 fl_A_66 (Or.inr ⟨hn, _, rfl, rfl⟩) rfl (fun _ => rfl) (fun _ => rfl) h66 (of_decide_eq_true h67) ?_
  refine zz_aload_n C 1 ddA_init_147 rfl rfl ?_
  refine zz_iconst (v := 0) C ddA_init_148 (by decide) ?_
  refine zz_puti C ddA_init_149 fl_A_69 rfl rfl rfl h66 ?_
  refine zz_aload_n C 1 ddA_init_152 rfl rfl ?_
  refine zz_iconst (v := 4) C ddA_init_153 (by decide) ?_
  obtain ⟨q68, hq68, h⟩ := bindN h
  refine zz_newI C ddA_init_154 wd_49 hg (by decide) (by decide) hq68 ⟨by rw [hR]; exact Nat.le_of_ble_eq_true rfl, by rw [hR]; exact Nat.le_of_ble_eq_true rfl⟩ ?_
  refine zz_kn (k1 := 789) (n1 := 72902) (by decide) (by decide) ?_
  obtain ⟨h69, h⟩ := gdN h
  obtain ⟨h70, h⟩ := gdN h
  refine zz_putr C ddA_init_156 fl_A_73 (Or.inr ⟨hn, _, rfl, rfl⟩) rfl (fun _ => rfl) (fun _ => rfl) h69 (of_decide_eq_true h70) ?_
  refine zz_aload_n C 1 ddA_init_159 rfl rfl ?_
  obtain ⟨q71, hq71, h⟩ := bindN h
  refine zz_new C ddA_init_160 (t := 3) rfl rfl ⟨wd_221, wd_222, wd_11⟩ hg hq71 ⟨by rw [hR]; exact Nat.le_of_ble_eq_true rfl, by rw [hR]; exact Nat.le_of_ble_eq_true rfl⟩ ?_
  refine zz_kn (k1 := 790) (n1 := 72911) (by decide) (by decide) ?_
  refine zz_dup C ddA_init_163 rfl ?_
  refine zz_aload_n C 1 ddA_init_164 rfl rfl ?_
  obtain ⟨h72, h⟩ := gdN h
  obtain ⟨h73, h⟩ := gdN h
  refine zz_getr C ddA_init_165 fl_A_28 rfl h72 (of_decide_eq_true h73) ?_
  obtain ⟨q74, hq74, h⟩ := bindN h
  refine zz_callI (As := [.ref (grM q71 v0 2)]) C ddA_init_168 wd_223 my_X_init ⟨rfl, mi_X_init⟩ (xX_init hG hg (d - 1) (by omega) hq74) (by omega) rfl rfl (Nat.le_of_ble_eq_true rfl) ⟨by rw [hR]; exact Nat.le_of_ble_eq_true rfl, by rw [hR]; exact Nat.le_of_ble_eq_true rfl⟩ ?_
  refine zz_kn (k1 := 979) (n1 := 86119) (by decide) (by decide) ?_
  obtain ⟨h75, h⟩ := gdN h
  obtain ⟨h76, h⟩ := gdN h
  refine zz_putr C ddA_init_171 fl_A_80 (Or.inr ⟨hn, _, rfl, rfl⟩) rfl (fun _ => rfl) (fun _ => rfl) h75 (of_decide_eq_true h76) ?_
  refine zz_aload_n C 1 ddA_init_174 rfl rfl ?_
  obtain ⟨q77, hq77, h⟩ := bindN h
  refine zz_new C ddA_init_175 (t := 1) rfl rfl ⟨wd_118, wd_119, wd_6⟩ hg hq77 ⟨by rw [hR]; exact Nat.le_of_ble_eq_true rfl, by rw [hR]; exact Nat.le_of_ble_eq_true rfl⟩ ?_
  refine zz_kn (k1 := 980) (n1 := 86128) (by decide) (by decide) ?_
  refine zz_dup C ddA_init_178 rfl ?_
  refine zz_aload_n C 1 ddA_init_179 rfl rfl ?_
  obtain ⟨h78, h⟩ := gdN h
  obtain ⟨h79, h⟩ := gdN h
  refine zz_getr C ddA_init_180 fl_A_28 rfl h78 (of_decide_eq_true h79) ?_
  obtain ⟨q80, hq80, h⟩ := bindN h
  refine zz_callI (As := [.ref (grM q77 v0 2)]) C ddA_init_183 wd_120 my_H_init ⟨rfl, mi_H_init⟩ (xH_init hG hg (d - 1) (by omega) hq80) (by omega) rfl rfl (Nat.le_of_ble_eq_true rfl) ⟨by rw [hR]; exact Nat.le_of_ble_eq_true rfl, by rw [hR]; exact Nat.le_of_ble_eq_true rfl⟩ ?_
  refine zz_kn (k1 := 997) (n1 := 87838) (by decide) (by decide) ?_
  obtain ⟨h81, h⟩ := gdN h
  obtain ⟨h82, h⟩ := gdN h
  refine zz_putr C ddA_init_186 fl_A_84 (Or.inr ⟨hn, _, rfl, rfl⟩) rfl (fun _ => rfl) (fun _ => rfl) h81 (of_decide_eq_true h82) ?_
  refine zz_aload_n C 1 ddA_init_189 rfl rfl ?_
  obtain ⟨q83, hq83, h⟩ := bindN h
  refine zz_new C ddA_init_190 (t := 5) rfl rfl ⟨wd_286, wd_231, wd_12⟩ hg hq83 ⟨by rw [hR]; exact Nat.le_of_ble_eq_true rfl, by rw [hR]; exact Nat.le_of_ble_eq_true rfl⟩ ?_
  refine zz_kn (k1 := 998) (n1 := 87843) (by decide) (by decide) ?_
  refine zz_dup C ddA_init_193 rfl ?_
  obtain ⟨q84, hq84, h⟩ := bindN h
  refine zz_callIN (As := []) C ddA_init_194 wd_287 my_G_init ⟨rfl, mi_G_init⟩ (xG_init hG hg (d - 1) (by omega) hq84) (by omega) rfl rfl (Nat.le_of_ble_eq_true rfl) ⟨by rw [hR]; exact Nat.le_of_ble_eq_true rfl, by rw [hR]; exact Nat.le_of_ble_eq_true rfl⟩ ?_
  refine zz_kn (k1 := 1001) (n1 := 87915) (by decide) (by decide) ?_
  obtain ⟨h85, h⟩ := gdN h
  obtain ⟨h86, h⟩ := gdN h
  refine zz_putr C ddA_init_197 fl_A_90 (Or.inr ⟨hn, _, rfl, rfl⟩) rfl (fun _ => rfl) (fun _ => rfl) h85 (of_decide_eq_true h86) ?_
  obtain rfl := Option.some.inj h
  exact zz_vret C E ddA_init_200
theorem ddM_init_0 : decode cM_init 0 = .ok (.aload_n 0, 1) := by decide +kernel
theorem ddM_init_1 : decode cM_init 1 = .ok (.invokespecial 3, 3) := by decide +kernel
theorem ddM_init_4 : decode cM_init 4 = .ok (.aload_n 0, 1) := by decide +kernel
theorem ddM_init_5 : decode cM_init 5 = .ok (.sipush 240, 3) := by decide +kernel
theorem ddM_init_8 : decode cM_init 8 = .ok (.newarray .int, 2) := by decide +kernel
theorem ddM_init_10 : decode cM_init 10 = .ok (.putfield 9, 3) := by decide +kernel
theorem ddM_init_13 : decode cM_init 13 = .ok (.aload_n 0, 1) := by decide +kernel
theorem ddM_init_14 : decode cM_init 14 = .ok (.iconst 5, 1) := by decide +kernel
theorem ddM_init_15 : decode cM_init 15 = .ok (.newarray .int, 2) := by decide +kernel
theorem ddM_init_17 : decode cM_init 17 = .ok (.putfield 13, 3) := by decide +kernel
theorem ddM_init_20 : decode cM_init 20 = .ok (.aload_n 0, 1) := by decide +kernel
theorem ddM_init_21 : decode cM_init 21 = .ok (.bipush 6, 2) := by decide +kernel
theorem ddM_init_23 : decode cM_init 23 = .ok (.newarray .int, 2) := by decide +kernel
theorem ddM_init_25 : decode cM_init 25 = .ok (.putfield 16, 3) := by decide +kernel
theorem ddM_init_28 : decode cM_init 28 = .ok (.aload_n 0, 1) := by decide +kernel
theorem ddM_init_29 : decode cM_init 29 = .ok (.iconst 5, 1) := by decide +kernel
theorem ddM_init_30 : decode cM_init 30 = .ok (.newarray .int, 2) := by decide +kernel
theorem ddM_init_32 : decode cM_init 32 = .ok (.putfield 19, 3) := by decide +kernel
theorem ddM_init_35 : decode cM_init 35 = .ok (.aload_n 0, 1) := by decide +kernel
theorem ddM_init_36 : decode cM_init 36 = .ok (.bipush 6, 2) := by decide +kernel
theorem ddM_init_38 : decode cM_init 38 = .ok (.newarray .int, 2) := by decide +kernel
theorem ddM_init_40 : decode cM_init 40 = .ok (.putfield 22, 3) := by decide +kernel
theorem ddM_init_43 : decode cM_init 43 = .ok (.aload_n 0, 1) := by decide +kernel
theorem ddM_init_44 : decode cM_init 44 = .ok (.sipush 360, 3) := by decide +kernel
theorem ddM_init_47 : decode cM_init 47 = .ok (.newarray .int, 2) := by decide +kernel
theorem ddM_init_49 : decode cM_init 49 = .ok (.putfield 25, 3) := by decide +kernel
theorem ddM_init_52 : decode cM_init 52 = .ok (.aload_n 0, 1) := by decide +kernel
theorem ddM_init_53 : decode cM_init 53 = .ok (.iconst 5, 1) := by decide +kernel
theorem ddM_init_54 : decode cM_init 54 = .ok (.newarray .int, 2) := by decide +kernel
theorem ddM_init_56 : decode cM_init 56 = .ok (.putfield 28, 3) := by decide +kernel
theorem ddM_init_59 : decode cM_init 59 = .ok (.aload_n 0, 1) := by decide +kernel
theorem ddM_init_60 : decode cM_init 60 = .ok (.sipush 3893, 3) := by decide +kernel
theorem ddM_init_63 : decode cM_init 63 = .ok (.newarray .int, 2) := by decide +kernel
theorem ddM_init_65 : decode cM_init 65 = .ok (.putfield 31, 3) := by decide +kernel
theorem ddM_init_68 : decode cM_init 68 = .ok (.aload_n 0, 1) := by decide +kernel
theorem ddM_init_69 : decode cM_init 69 = .ok (.iconst 4, 1) := by decide +kernel
theorem ddM_init_70 : decode cM_init 70 = .ok (.newarray .int, 2) := by decide +kernel
theorem ddM_init_72 : decode cM_init 72 = .ok (.putfield 34, 3) := by decide +kernel
theorem ddM_init_75 : decode cM_init 75 = .ok (.aload_n 0, 1) := by decide +kernel
theorem ddM_init_76 : decode cM_init 76 = .ok (.bipush 48, 2) := by decide +kernel
theorem ddM_init_78 : decode cM_init 78 = .ok (.newarray .int, 2) := by decide +kernel
theorem ddM_init_80 : decode cM_init 80 = .ok (.putfield 37, 3) := by decide +kernel
theorem ddM_init_83 : decode cM_init 83 = .ok (.aload_n 0, 1) := by decide +kernel
theorem ddM_init_84 : decode cM_init 84 = .ok (.bipush 48, 2) := by decide +kernel
theorem ddM_init_86 : decode cM_init 86 = .ok (.newarray .int, 2) := by decide +kernel
theorem ddM_init_88 : decode cM_init 88 = .ok (.putfield 40, 3) := by decide +kernel
theorem ddM_init_91 : decode cM_init 91 = .ok (.aload_n 0, 1) := by decide +kernel
theorem ddM_init_92 : decode cM_init 92 = .ok (.bipush 48, 2) := by decide +kernel
theorem ddM_init_94 : decode cM_init 94 = .ok (.newarray .int, 2) := by decide +kernel
theorem ddM_init_96 : decode cM_init 96 = .ok (.putfield 43, 3) := by decide +kernel
theorem ddM_init_99 : decode cM_init 99 = .ok (.aload_n 0, 1) := by decide +kernel
theorem ddM_init_100 : decode cM_init 100 = .ok (.bipush 48, 2) := by decide +kernel
theorem ddM_init_102 : decode cM_init 102 = .ok (.newarray .boolean, 2) := by decide +kernel
theorem ddM_init_104 : decode cM_init 104 = .ok (.putfield 46, 3) := by decide +kernel
theorem ddM_init_107 : decode cM_init 107 = .ok (.aload_n 0, 1) := by decide +kernel
theorem ddM_init_108 : decode cM_init 108 = .ok (.iconst 2, 1) := by decide +kernel
theorem ddM_init_109 : decode cM_init 109 = .ok (.newarray .int, 2) := by decide +kernel
theorem ddM_init_111 : decode cM_init 111 = .ok (.putfield 50, 3) := by decide +kernel
theorem ddM_init_114 : decode cM_init 114 = .ok (.aload_n 0, 1) := by decide +kernel
theorem ddM_init_115 : decode cM_init 115 = .ok (.ldc 53, 2) := by decide +kernel
theorem ddM_init_117 : decode cM_init 117 = .ok (.newarray .int, 2) := by decide +kernel
theorem ddM_init_119 : decode cM_init 119 = .ok (.putfield 54, 3) := by decide +kernel
theorem ddM_init_122 : decode cM_init 122 = .ok (.aload_n 0, 1) := by decide +kernel
theorem ddM_init_123 : decode cM_init 123 = .ok (.ldc 57, 2) := by decide +kernel
theorem ddM_init_125 : decode cM_init 125 = .ok (.newarray .int, 2) := by decide +kernel
theorem ddM_init_127 : decode cM_init 127 = .ok (.putfield 58, 3) := by decide +kernel
theorem ddM_init_130 : decode cM_init 130 = .ok (.aload_n 0, 1) := by decide +kernel
theorem ddM_init_131 : decode cM_init 131 = .ok (.sipush 3893, 3) := by decide +kernel
theorem ddM_init_134 : decode cM_init 134 = .ok (.newarray .int, 2) := by decide +kernel
theorem ddM_init_136 : decode cM_init 136 = .ok (.putfield 61, 3) := by decide +kernel
theorem ddM_init_139 : decode cM_init 139 = .ok (.return_, 1) := by decide +kernel
set_option maxHeartbeats 8000000 in
set_option maxRecDepth 100000 in
theorem xM_init {G : GXM} {l : Launch} (hG : GokM G) (hg : G.2.2.2.2 = true) (d : Nat) (hd : 1 ≤ d) {v0 : Nat} {M : Mem} {q : Mem} (h : fM_init v0 M = some q) : ExM G l d 17 (212587) yM_init cM_init 1 none [.ref v0] M none q := by
  refine ex_of hG (by decide +kernel) (Nat.le_of_ble_eq_true rfl) ?_
  intro X hl C E N hD hn
  have hR := EnM_R E
  show ZM G X 0 [(0, .ref v0)] [] M 0 0
  unfold fM_init at h
  refine zz_aload_n C 0 ddM_init_0 rfl rfl ?_
  refine zz_objInit C ddM_init_1 wd_1167 ⟨wd_31, wd_32⟩ (by omega) (Nat.le_of_ble_eq_true rfl) ?_
  refine zz_aload_n C 0 ddM_init_4 rfl rfl ?_
  refine zz_sipush (v := 240) C ddM_init_5 (by decide) ?_
  obtain ⟨q1, hq1, h⟩ := bindN h
  refine zz_newI C ddM_init_8 wd_49 hg (by decide) (by decide) hq1 ⟨by rw [hR]; exact Nat.le_of_ble_eq_true rfl, by rw [hR]; exact Nat.le_of_ble_eq_true rfl⟩ ?_
  refine zz_kn (k1 := 1) (n1 := 240) (by decide) (by decide) ?_
  obtain ⟨h2, h⟩ := gdN h
  obtain ⟨h3, h⟩ := gdN h
  refine zz_putr C ddM_init_10 fl_M_9 (Or.inr ⟨hn, _, rfl, rfl⟩) rfl (fun _ => rfl) (fun _ => rfl) h2 (of_decide_eq_true h3) ?_
  refine zz_aload_n C 0 ddM_init_13 rfl rfl ?_
  refine zz_iconst (v := 5) C ddM_init_14 (by decide) ?_
  obtain ⟨q4, hq4, h⟩ := bindN h
  refine zz_newI C ddM_init_15 wd_49 hg (by decide) (by decide) hq4 ⟨by rw [hR]; exact Nat.le_of_ble_eq_true rfl, by rw [hR]; exact Nat.le_of_ble_eq_true rfl⟩ ?_
  refine zz_kn (k1 := 2) (n1 := 245) (by decide) (by decide) ?_
  obtain ⟨h5, h⟩ := gdN h
  obtain ⟨h6, h⟩ := gdN h
  refine zz_putr C ddM_init_17 fl_M_13 (Or.inr ⟨hn, _, rfl, rfl⟩) rfl (fun _ => rfl) (fun _ => rfl) h5 (of_decide_eq_true h6) ?_
  refine zz_aload_n C 0 ddM_init_20 rfl rfl ?_
  refine zz_bipush (v := 6) C ddM_init_21 (by decide) ?_
  obtain ⟨q7, hq7, h⟩ := bindN h
  refine zz_newI C ddM_init_23 wd_49 hg (by decide) (by decide) hq7 ⟨by rw [hR]; exact Nat.le_of_ble_eq_true rfl, by rw [hR]; exact Nat.le_of_ble_eq_true rfl⟩ ?_
  refine zz_kn (k1 := 3) (n1 := 251) (by decide) (by decide) ?_
  obtain ⟨h8, h⟩ := gdN h
  obtain ⟨h9, h⟩ := gdN h
  refine zz_putr C ddM_init_25 fl_M_16 (Or.inr ⟨hn, _, rfl, rfl⟩) rfl (fun _ => rfl) (fun _ => rfl) h8 (of_decide_eq_true h9) ?_
  refine zz_aload_n C 0 ddM_init_28 rfl rfl ?_
  refine zz_iconst (v := 5) C ddM_init_29 (by decide) ?_
  obtain ⟨q10, hq10, h⟩ := bindN h
  refine zz_newI C ddM_init_30 wd_49 hg (by decide) (by decide) hq10 ⟨by rw [hR]; exact Nat.le_of_ble_eq_true rfl, by rw [hR]; exact Nat.le_of_ble_eq_true rfl⟩ ?_
  refine zz_kn (k1 := 4) (n1 := 256) (by decide) (by decide) ?_
  obtain ⟨h11, h⟩ := gdN h
  obtain ⟨h12, h⟩ := gdN h
  refine zz_putr C ddM_init_32 fl_M_19 (Or.inr ⟨hn, _, rfl, rfl⟩) rfl (fun _ => rfl) (fun _ => rfl) h11 (of_decide_eq_true h12) ?_
  refine zz_aload_n C 0 ddM_init_35 rfl rfl ?_
  refine zz_bipush (v := 6) C ddM_init_36 (by decide) ?_
  obtain ⟨q13, hq13, h⟩ := bindN h
  refine zz_newI C ddM_init_38 wd_49 hg (by decide) (by decide) hq13 ⟨by rw [hR]; exact Nat.le_of_ble_eq_true rfl, by rw [hR]; exact Nat.le_of_ble_eq_true rfl⟩ ?_
  refine zz_kn (k1 := 5) (n1 := 262) (by decide) (by decide) ?_
  obtain ⟨h14, h⟩ := gdN h
  obtain ⟨h15, h⟩ := gdN h
  refine zz_putr C ddM_init_40 fl_M_22 (Or.inr ⟨hn, _, rfl, rfl⟩) rfl (fun _ => rfl) (fun _ => rfl) h14 (of_decide_eq_true h15) ?_
  refine zz_aload_n C 0 ddM_init_43 rfl rfl ?_
  refine zz_sipush (v := 360) C ddM_init_44 (by decide) ?_
  obtain ⟨q16, hq16, h⟩ := bindN h
  refine zz_newI C ddM_init_47 wd_49 hg (by decide) (by decide) hq16 ⟨by rw [hR]; exact Nat.le_of_ble_eq_true rfl, by rw [hR]; exact Nat.le_of_ble_eq_true rfl⟩ ?_
  refine zz_kn (k1 := 6) (n1 := 622) (by decide) (by decide) ?_
  obtain ⟨h17, h⟩ := gdN h
  obtain ⟨h18, h⟩ := gdN h
  refine zz_putr C ddM_init_49 fl_M_25 (Or.inr ⟨hn, _, rfl, rfl⟩) rfl (fun _ => rfl) (fun _ => rfl) h17 (of_decide_eq_true h18) ?_
  refine zz_aload_n C 0 ddM_init_52 rfl rfl ?_
  refine zz_iconst (v := 5) C ddM_init_53 (by decide) ?_
  obtain ⟨q19, hq19, h⟩ := bindN h
  refine zz_newI C ddM_init_54 wd_49 hg (by decide) (by decide) hq19 ⟨by rw [hR]; exact Nat.le_of_ble_eq_true rfl, by rw [hR]; exact Nat.le_of_ble_eq_true rfl⟩ ?_
  refine zz_kn (k1 := 7) (n1 := 627) (by decide) (by decide) ?_
  obtain ⟨h20, h⟩ := gdN h
  obtain ⟨h21, h⟩ := gdN h
  refine zz_putr C ddM_init_56 fl_M_28 (Or.inr ⟨hn, _, rfl, rfl⟩) rfl (fun _ => rfl) (fun _ => rfl) h20 (of_decide_eq_true h21) ?_
  refine zz_aload_n C 0 ddM_init_59 rfl rfl ?_
  refine zz_sipush (v := 3893) C ddM_init_60 (by decide) ?_
  obtain ⟨q22, hq22, h⟩ := bindN h
  refine zz_newI C ddM_init_63 wd_49 hg (by decide) (by decide) hq22 ⟨by rw [hR]; exact Nat.le_of_ble_eq_true rfl, by rw [hR]; exact Nat.le_of_ble_eq_true rfl⟩ ?_
  refine zz_kn (k1 := 8) (n1 := 4520) (by decide) (by decide) ?_
  obtain ⟨h23, h⟩ := gdN h
  obtain ⟨h24, h⟩ := gdN h
  refine zz_putr C ddM_init_65 fl_M_31 (Or.inr ⟨hn, _, rfl, rfl⟩) rfl (fun _ => rfl) (fun _ => rfl) h23 (of_decide_eq_true h24) ?_
  refine zz_aload_n C 0 ddM_init_68 rfl rfl ?_
  refine zz_iconst (v := 4) C ddM_init_69 (by decide) ?_
  obtain ⟨q25, hq25, h⟩ := bindN h
  refine zz_newI C ddM_init_70 wd_49 hg (by decide) (by decide) hq25 ⟨by rw [hR]; exact Nat.le_of_ble_eq_true rfl, by rw [hR]; exact Nat.le_of_ble_eq_true rfl⟩ ?_
  refine zz_kn (k1 := 9) (n1 := 4524) (by decide) (by decide) ?_
  obtain ⟨h26, h⟩ := gdN h
  obtain ⟨h27, h⟩ := gdN h
  refine zz_putr C ddM_init_72 fl_M_34 (Or.inr ⟨hn, _, rfl, rfl⟩) rfl (fun _ => rfl) (fun _ => rfl) h26 (of_decide_eq_true h27) ?_
  refine zz_aload_n C 0 ddM_init_75 rfl rfl ?_
  refine zz_bipush (v := 48) C ddM_init_76 (by decide) ?_
  obtain ⟨q28, hq28, h⟩ := bindN h
  refine zz_newI C ddM_init_78 wd_49 hg (by decide) (by decide) hq28 ⟨by rw [hR]; exact Nat.le_of_ble_eq_true rfl, by rw [hR]; exact Nat.le_of_ble_eq_true rfl⟩ ?_
  refine zz_kn (k1 := 10) (n1 := 4572) (by decide) (by decide) ?_
  obtain ⟨h29, h⟩ := gdN h
  obtain ⟨h30, h⟩ := gdN h
  refine zz_putr C ddM_init_80 fl_M_37 (Or.inr ⟨hn, _, rfl, rfl⟩) rfl (fun _ => rfl) (fun _ => rfl) h29 (of_decide_eq_true h30) ?_
  refine zz_aload_n C 0 ddM_init_83 rfl rfl ?_
  refine zz_bipush (v := 48) C ddM_init_84 (by decide) ?_
  obtain ⟨q31, hq31, h⟩ := bindN h
  refine zz_newI C ddM_init_86 wd_49 hg (by decide) (by decide) hq31 ⟨by rw [hR]; exact Nat.le_of_ble_eq_true rfl, by rw [hR]; exact Nat.le_of_ble_eq_true rfl⟩ ?_
  refine zz_kn (k1 := 11) (n1 := 4620) (by decide) (by decide) ?_
  obtain ⟨h32, h⟩ := gdN h
  obtain ⟨h33, h⟩ := gdN h
  refine zz_putr C ddM_init_88 fl_M_40 (Or.inr ⟨hn, _, rfl, rfl⟩) rfl (fun _ => rfl) (fun _ => rfl) h32 (of_decide_eq_true h33) ?_
  refine zz_aload_n C 0 ddM_init_91 rfl rfl ?_
  refine zz_bipush (v := 48) C ddM_init_92 (by decide) ?_
  obtain ⟨q34, hq34, h⟩ := bindN h
  refine zz_newI C ddM_init_94 wd_49 hg (by decide) (by decide) hq34 ⟨by rw [hR]; exact Nat.le_of_ble_eq_true rfl, by rw [hR]; exact Nat.le_of_ble_eq_true rfl⟩ ?_
  refine zz_kn (k1 := 12) (n1 := 4668) (by decide) (by decide) ?_
  obtain ⟨h35, h⟩ := gdN h
  obtain ⟨h36, h⟩ := gdN h
  refine zz_putr C ddM_init_96 fl_M_43 (Or.inr ⟨hn, _, rfl, rfl⟩) rfl (fun _ => rfl) (fun _ => rfl) h35 (of_decide_eq_true h36) ?_
  refine zz_aload_n C 0 ddM_init_99 rfl rfl ?_
  refine zz_bipush (v := 48) C ddM_init_100 (by decide) ?_
  obtain ⟨q37, hq37, h⟩ := bindN h
  refine zz_newZ C ddM_init_102 wd_1273 hg (by decide) (by decide) hq37 ⟨by rw [hR]; exact Nat.le_of_ble_eq_true rfl, by rw [hR]; exact Nat.le_of_ble_eq_true rfl⟩ ?_
  refine zz_kn (k1 := 13) (n1 := 4716) (by decide) (by decide) ?_
  obtain ⟨h38, h⟩ := gdN h
  obtain ⟨h39, h⟩ := gdN h
  refine zz_putr C ddM_init_104 fl_M_46 (Or.inr ⟨hn, _, rfl, rfl⟩) rfl (fun _ => rfl) (fun _ => rfl) h38 (of_decide_eq_true h39) ?_
  refine zz_aload_n C 0 ddM_init_107 rfl rfl ?_
  refine zz_iconst (v := 2) C ddM_init_108 (by decide) ?_
  obtain ⟨q40, hq40, h⟩ := bindN h
  refine zz_newI C ddM_init_109 wd_49 hg (by decide) (by decide) hq40 ⟨by rw [hR]; exact Nat.le_of_ble_eq_true rfl, by rw [hR]; exact Nat.le_of_ble_eq_true rfl⟩ ?_
  refine zz_kn (k1 := 14) (n1 := 4718) (by decide) (by decide) ?_
  obtain ⟨h41, h⟩ := gdN h
  obtain ⟨h42, h⟩ := gdN h
  refine zz_putr C ddM_init_111 fl_M_50 (Or.inr ⟨hn, _, rfl, rfl⟩) rfl (fun _ => rfl) (fun _ => rfl) h41 (of_decide_eq_true h42) ?_
  refine zz_aload_n C 0 ddM_init_114 rfl rfl ?_
  refine zz_ldc C ddM_init_115 wd_1168 rfl ?_
  obtain ⟨q43, hq43, h⟩ := bindN h
  refine zz_newI C ddM_init_117 wd_49 hg (by decide) (by decide) hq43 ⟨by rw [hR]; exact Nat.le_of_ble_eq_true rfl, by rw [hR]; exact Nat.le_of_ble_eq_true rfl⟩ ?_
  refine zz_kn (k1 := 15) (n1 := 160438) (by decide) (by decide) ?_
  obtain ⟨h44, h⟩ := gdN h
  obtain ⟨h45, h⟩ := gdN h
  refine zz_putr C ddM_init_119 fl_M_54 (Or.inr ⟨hn, _, rfl, rfl⟩) rfl (fun _ => rfl) (fun _ => rfl) h44 (of_decide_eq_true h45) ?_
  refine zz_aload_n C 0 ddM_init_122 rfl rfl ?_
  refine zz_ldc C ddM_init_123 wd_1169 rfl ?_
  obtain ⟨q46, hq46, h⟩ := bindN h
  refine zz_newI C ddM_init_125 wd_49 hg (by decide) (by decide) hq46 ⟨by rw [hR]; exact Nat.le_of_ble_eq_true rfl, by rw [hR]; exact Nat.le_of_ble_eq_true rfl⟩ ?_
  refine zz_kn (k1 := 16) (n1 := 208694) (by decide) (by decide) ?_
  obtain ⟨h47, h⟩ := gdN h
  obtain ⟨h48, h⟩ := gdN h
  refine zz_putr C ddM_init_127 fl_M_58 (Or.inr ⟨hn, _, rfl, rfl⟩) rfl (fun _ => rfl) (fun _ => rfl) h47 (of_decide_eq_true h48) ?_
  refine zz_aload_n C 0 ddM_init_130 rfl rfl ?_
  refine zz_sipush (v := 3893) C ddM_init_131 (by decide) ?_
  obtain ⟨q49, hq49, h⟩ := bindN h
  refine zz_newI C ddM_init_134 wd_49 hg (by decide) (by decide) hq49 ⟨by rw [hR]; exact Nat.le_of_ble_eq_true rfl, by rw [hR]; exact Nat.le_of_ble_eq_true rfl⟩ ?_
  refine zz_kn (k1 := 17) (n1 := 212587) (by decide) (by decide) ?_
  obtain ⟨h50, h⟩ := gdN h
  obtain ⟨h51, h⟩ := gdN h
  refine zz_putr C ddM_init_136 fl_M_61 (Or.inr ⟨hn, _, rfl, rfl⟩) rfl (fun _ => rfl) (fun _ => rfl) h50 (of_decide_eq_true h51) ?_
  obtain rfl := Option.some.inj h
  exact zz_vret C E ddM_init_139
