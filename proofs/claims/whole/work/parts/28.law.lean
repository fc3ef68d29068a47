def fW_0 (i : Int32) (M : Mem) : Option Mem :=
  gd (rdI M 5006 (i + 1)) <| gd (rdI M 5006 (i + 2)) <| gd (rdI M 5006 (i + 3)) <| gd (rdI M 5006 (i + 4)) <| gd (rdI M 5006 (i + 5)) <| gd (obM M 1 10 15) <| (fA_feed 1 (giM M 5006 (Int32.toNatClampNeg (i + 1))) (giM M 5006 (Int32.toNatClampNeg (i + 2))) (giM M 5006 (Int32.toNatClampNeg (i + 3))) (giM M 5006 (Int32.toNatClampNeg (i + 4))) (giM M 5006 (Int32.toNatClampNeg (i + 5))) M).bind fun q6 => gd (rdI q6.2 5006 (i + 1)) <| gd (rdI q6.2 5006 (i + 2)) <| gd (rdI q6.2 5006 (i + 3)) <| gd (rdI q6.2 5006 (i + 4)) <| gd (rdI q6.2 5006 (i + 5)) <| gd (obM q6.2 1003 11 34) <| (fM_feed 1003 (giM q6.2 5006 (Int32.toNatClampNeg (i + 1))) (giM q6.2 5006 (Int32.toNatClampNeg (i + 2))) (giM q6.2 5006 (Int32.toNatClampNeg (i + 3))) (giM q6.2 5006 (Int32.toNatClampNeg (i + 4))) (giM q6.2 5006 (Int32.toNatClampNeg (i + 5))) q6.2).bind fun q13 => if q6.1 = q13.1 then (some q13.2) else (none)
def fW_1 (i : Int32) (M : Mem) : Option Mem :=
  gd (rdI M 5006 (i + 1)) <| gd (obM M 1 10 15) <| (fA_end 1 (giM M 5006 (Int32.toNatClampNeg (i + 1))) M).bind fun q2 => gd (rdI q2.2 5006 (i + 1)) <| gd (obM q2.2 1003 11 34) <| (fM_end 1003 (giM q2.2 5006 (Int32.toNatClampNeg (i + 1))) q2.2).bind fun q5 => if q2.1 = q5.1 then (some q5.2) else (none)
def fW_2 (i : Int32) (M : Mem) : Option Mem :=
  gd (rdI M 5006 (i + 1)) <| gd (obM M 1 10 15) <| (fA_fault 1 (giM M 5006 (Int32.toNatClampNeg (i + 1))) M).bind fun q2 => gd (rdI q2.2 5006 (i + 1)) <| gd (obM q2.2 1003 11 34) <| (fM_fault 1003 (giM q2.2 5006 (Int32.toNatClampNeg (i + 1))) q2.2).bind fun q5 => if q2.1 = q5.1 then (some q5.2) else (none)
def fW_3 (i : Int32) (M : Mem) : Option Mem :=
  gd (rdI M 5006 (i + 1)) <| gd (obM M 1 10 15) <| (fA_text 1 (giM M 5006 (Int32.toNatClampNeg (i + 1))) M).bind fun q2 => gd (rdI q2.2 5006 (i + 1)) <| gd (obM q2.2 1003 11 34) <| (fM_text 1003 (giM q2.2 5006 (Int32.toNatClampNeg (i + 1))) q2.2).bind fun q5 => if q2.1 = q5.1 then (some q5.2) else (none)
def fW_4 (i : Int32) (M : Mem) : Option Mem :=
  gd (rdI M 5006 (i + 1)) <| gd (obM M 1 10 15) <| (fA_rule 1 (giM M 5006 (Int32.toNatClampNeg (i + 1))) M).bind fun q2 => gd (rdI q2.2 5006 (i + 1)) <| gd (obM q2.2 1003 11 34) <| (fM_rule 1003 (giM q2.2 5006 (Int32.toNatClampNeg (i + 1))) q2.2).bind fun q5 => if q2.1 = q5.1 then (some q5.2) else (none)
def fW_5 (i : Int32) (M : Mem) : Option Mem :=
  gd (rdI M 5006 (i + 1)) <| gd (obM M 1 10 15) <| (fA_size 1 (giM M 5006 (Int32.toNatClampNeg (i + 1))) M).bind fun q2 => gd (rdI q2.2 5006 (i + 1)) <| gd (obM q2.2 1003 11 34) <| (fM_size 1003 (giM q2.2 5006 (Int32.toNatClampNeg (i + 1))) q2.2).bind fun q5 => if q2.1 = q5.1 then (some q5.2) else (none)
def fW_6 (i : Int32) (M : Mem) : Option Mem :=
  gd (rdI M 5006 (i + 1)) <| gd (rdI M 5006 (i + 2)) <| (fW_page 1 (giM M 5006 (Int32.toNatClampNeg (i + 1))) (giM M 5006 (Int32.toNatClampNeg (i + 2))) 1021 M).bind fun q3 => gd (rdI q3.2 5006 (i + 1)) <| gd (rdI q3.2 5006 (i + 2)) <| gd (obM q3.2 1003 11 34) <| (fM_page 1003 (giM q3.2 5006 (Int32.toNatClampNeg (i + 1))) (giM q3.2 5006 (Int32.toNatClampNeg (i + 2))) q3.2).bind fun q6 => gd (obM q6.2 1003 11 34) <| (fM_thrown 1003 q6.2).bind fun q8 => if q8.1 = q3.1 then (if q3.1 = 0 then (gd (wrT 102 q8.2 1021 0) <| if (lg_cmp (glM q8.2 1021 (Int32.toNatClampNeg 0)) (Int32.toInt64 q6.1)) = 0 then (some q8.2) else (none)) else (some q8.2)) else (none)
def fW_7 (i : Int32) (M : Mem) : Option Mem :=
  gd (rdI M 5006 (i + 1)) <| gd (rdI M 5006 (i + 2)) <| gd (rdI M 5006 (i + 3)) <| gd (obM M 1 10 15) <| (fA_list 1 (giM M 5006 (Int32.toNatClampNeg (i + 1))) (giM M 5006 (Int32.toNatClampNeg (i + 2))) (giM M 5006 (Int32.toNatClampNeg (i + 3))) M).bind fun q4 => gd (rdI q4.2 5006 (i + 1)) <| gd (rdI q4.2 5006 (i + 2)) <| gd (rdI q4.2 5006 (i + 3)) <| gd (obM q4.2 1003 11 34) <| (fM_list 1003 (giM q4.2 5006 (Int32.toNatClampNeg (i + 1))) (giM q4.2 5006 (Int32.toNatClampNeg (i + 2))) (giM q4.2 5006 (Int32.toNatClampNeg (i + 3))) q4.2).bind fun q9 => if q4.1 = q9.1 then (some q9.2) else (none)
def fW_8 (i : Int32) (M : Mem) : Option Mem :=
  gd (rdI M 5006 (i + 1)) <| gd (rdI M 5006 (i + 2)) <| gd (obM M 1 10 15) <| (fA_thread 1 (giM M 5006 (Int32.toNatClampNeg (i + 1))) (giM M 5006 (Int32.toNatClampNeg (i + 2))) M).bind fun q3 => gd (rdI q3.2 5006 (i + 1)) <| gd (rdI q3.2 5006 (i + 2)) <| gd (obM q3.2 1003 11 34) <| (fM_thread 1003 (giM q3.2 5006 (Int32.toNatClampNeg (i + 1))) (giM q3.2 5006 (Int32.toNatClampNeg (i + 2))) q3.2).bind fun q7 => if q3.1 = q7.1 then (some q7.2) else (none)
def fW_9 (i : Int32) (M : Mem) : Option Mem :=
  gd (rdI M 5006 (i + 1)) <| gd (rdI M 5006 (i + 2)) <| gd (rdI M 5006 (i + 3)) <| gd (obM M 1 10 15) <| (fA_queue 1 (giM M 5006 (Int32.toNatClampNeg (i + 1))) (giM M 5006 (Int32.toNatClampNeg (i + 2))) (giM M 5006 (Int32.toNatClampNeg (i + 3))) M).bind fun q4 => gd (rdI q4.2 5006 (i + 1)) <| gd (rdI q4.2 5006 (i + 2)) <| gd (rdI q4.2 5006 (i + 3)) <| gd (obM q4.2 1003 11 34) <| (fM_queue 1003 (giM q4.2 5006 (Int32.toNatClampNeg (i + 1))) (giM q4.2 5006 (Int32.toNatClampNeg (i + 2))) (giM q4.2 5006 (Int32.toNatClampNeg (i + 3))) q4.2).bind fun q9 => if q4.1 = q9.1 then (some q9.2) else (none)
def fW_10 (i : Int32) (M : Mem) : Option Mem :=
  gd (rdI M 5006 (i + 1)) <| gd (rdI M 5006 (i + 2)) <| gd (rdI M 5006 (i + 3)) <| gd (obM M 1 10 15) <| (fA_outbox 1 (giM M 5006 (Int32.toNatClampNeg (i + 1))) (giM M 5006 (Int32.toNatClampNeg (i + 2))) (giM M 5006 (Int32.toNatClampNeg (i + 3))) M).bind fun q4 => gd (rdI q4.2 5006 (i + 1)) <| gd (rdI q4.2 5006 (i + 2)) <| gd (rdI q4.2 5006 (i + 3)) <| gd (obM q4.2 1003 11 34) <| (fM_outbox 1003 (giM q4.2 5006 (Int32.toNatClampNeg (i + 1))) (giM q4.2 5006 (Int32.toNatClampNeg (i + 2))) (giM q4.2 5006 (Int32.toNatClampNeg (i + 3))) q4.2).bind fun q9 => if q4.1 = q9.1 then (some q9.2) else (none)
def fW_11 (i : Int32) (M : Mem) : Option Mem :=
  gd (rdI M 5006 (i + 1)) <| gd (obM M 1 10 15) <| (fA_held 1 (giM M 5006 (Int32.toNatClampNeg (i + 1))) M).bind fun q2 => gd (rdI q2.2 5006 (i + 1)) <| gd (obM q2.2 1003 11 34) <| (fM_held 1003 (giM q2.2 5006 (Int32.toNatClampNeg (i + 1))) q2.2).bind fun q5 => if q2.1 = q5.1 then (some q5.2) else (none)
def fW_12 (i : Int32) (M : Mem) : Option Mem :=
  gd (rdI M 5006 (i + 1)) <| gd (rdI M 5006 (i + 2)) <| gd (obM M 1 10 15) <| (fA_get 1 (giM M 5006 (Int32.toNatClampNeg (i + 1))) (giM M 5006 (Int32.toNatClampNeg (i + 2))) M).bind fun q3 => gd (rdI q3.2 5006 (i + 1)) <| gd (rdI q3.2 5006 (i + 2)) <| gd (obM q3.2 1003 11 34) <| (fM_get 1003 (giM q3.2 5006 (Int32.toNatClampNeg (i + 1))) (giM q3.2 5006 (Int32.toNatClampNeg (i + 2))) q3.2).bind fun q7 => if q3.1 = q7.1 then (some q7.2) else (none)
def fW_13 (i : Int32) (M : Mem) : Option Mem :=
  gd (rdI M 5006 (i + 1)) <| gd (rdI M 5006 (i + 2)) <| gd (obM M 1 10 15) <| (fA_free 1 (giM M 5006 (Int32.toNatClampNeg (i + 1))) (giM M 5006 (Int32.toNatClampNeg (i + 2))) M).bind fun q3 => gd (rdI q3.2 5006 (i + 1)) <| gd (rdI q3.2 5006 (i + 2)) <| gd (obM q3.2 1003 11 34) <| (fM_free 1003 (giM q3.2 5006 (Int32.toNatClampNeg (i + 1))) (giM q3.2 5006 (Int32.toNatClampNeg (i + 2))) q3.2).bind fun q7 => if q3.1 = q7.1 then (some q7.2) else (none)
def fW_14 (i : Int32) (M : Mem) : Option Mem :=
  gd (rdI M 5006 (i + 1)) <| gd (obM M 1 10 15) <| (fA_tick 1 (giM M 5006 (Int32.toNatClampNeg (i + 1))) M).bind fun q2 => gd (rdI q2.2 5006 (i + 1)) <| gd (obM q2.2 1003 11 34) <| (fM_tick 1003 (giM q2.2 5006 (Int32.toNatClampNeg (i + 1))) q2.2).bind fun q5 => if q2.1 = q5.1 then (some q5.2) else (none)
def fW_15 (i : Int32) (M : Mem) : Option Mem :=
  gd (rdI M 5006 (i + 1)) <| gd (obM M 1 10 15) <| (fA_send 1 (giM M 5006 (Int32.toNatClampNeg (i + 1))) M).bind fun q2 => gd (rdI q2.2 5006 (i + 1)) <| gd (obM q2.2 1003 11 34) <| (fM_send 1003 (giM q2.2 5006 (Int32.toNatClampNeg (i + 1))) q2.2).bind fun q5 => if q2.1 = q5.1 then (some q5.2) else (none)
def fW_16 (i : Int32) (M : Mem) : Option Mem :=
  gd (rdI M 5006 (i + 1)) <| gd (obM M 1 10 15) <| (fA_turn 1 (giM M 5006 (Int32.toNatClampNeg (i + 1))) M).bind fun q2 => gd (rdI q2.2 5006 (i + 1)) <| gd (obM q2.2 1003 11 34) <| (fM_turn 1003 (giM q2.2 5006 (Int32.toNatClampNeg (i + 1))) q2.2).bind fun q5 => if q2.1 = q5.1 then (some q5.2) else (none)
def fW_17 (i : Int32) (M : Mem) : Option Mem :=
  gd (rdI M 5006 (i + 1)) <| gd (obM M 1 10 15) <| (fA_perform 1 (giM M 5006 (Int32.toNatClampNeg (i + 1))) M).bind fun q2 => gd (rdI q2.2 5006 (i + 1)) <| gd (obM q2.2 1003 11 34) <| (fM_perform 1003 (giM q2.2 5006 (Int32.toNatClampNeg (i + 1))) q2.2).bind fun q5 => if q2.1 = q5.1 then (some q5.2) else (none)
def fW_18 (i : Int32) (M : Mem) : Option Mem :=
  gd (rdI M 5006 (i + 1)) <| gd (rdI M 5006 (i + 2)) <| gd (rdI M 5006 (i + 3)) <| gd (obM M 1 10 15) <| (fA_years 1 (giM M 5006 (Int32.toNatClampNeg (i + 1))) (((Int32.toInt64 (giM M 5006 (Int32.toNatClampNeg (i + 2)))) <<< (Int32.toInt64 32 &&& 63)) ||| ((Int32.toInt64 (giM M 5006 (Int32.toNatClampNeg (i + 3)))) &&& 4294967295)) M).bind fun q4 => gd (rdI q4.2 5006 (i + 1)) <| gd (rdI q4.2 5006 (i + 2)) <| gd (rdI q4.2 5006 (i + 3)) <| gd (obM q4.2 1003 11 34) <| (fM_years 1003 (giM q4.2 5006 (Int32.toNatClampNeg (i + 1))) (((Int32.toInt64 (giM q4.2 5006 (Int32.toNatClampNeg (i + 2)))) <<< (Int32.toInt64 32 &&& 63)) ||| ((Int32.toInt64 (giM q4.2 5006 (Int32.toNatClampNeg (i + 3)))) &&& 4294967295)) q4.2).bind fun q9 => if q4.1 = q9.1 then (some q9.2) else (none)
def fW_19 (i : Int32) (M : Mem) : Option Mem :=
  gd (rdI M 5006 (i + 1)) <| gd (obM M 1 10 15) <| (fA_status 1 (giM M 5006 (Int32.toNatClampNeg (i + 1))) M).bind fun q2 => gd (rdI q2.2 5006 (i + 1)) <| gd (obM q2.2 1003 11 34) <| (fM_status 1003 (giM q2.2 5006 (Int32.toNatClampNeg (i + 1))) q2.2).bind fun q5 => if q2.1 = q5.1 then (some q5.2) else (none)
def fW_20 (i : Int32) (M : Mem) : Option Mem :=
  gd (obM M 1 10 15) <| (fA_undo 1 M).bind fun q1 => gd (obM q1.2 1003 11 34) <| (fM_undo 1003 q1.2).bind fun q3 => if q1.1 = q3.1 then (some q3.2) else (none)
def fW_21 (i : Int32) (M : Mem) : Option Mem :=
  gd (rdI M 5006 (i + 1)) <| gd (rdI M 5006 (i + 2)) <| gd (obM M 1 10 15) <| (fA_log 1 (giM M 5006 (Int32.toNatClampNeg (i + 1))) (giM M 5006 (Int32.toNatClampNeg (i + 2))) M).bind fun q3 => gd (rdI q3.2 5006 (i + 1)) <| gd (rdI q3.2 5006 (i + 2)) <| gd (obM q3.2 1003 11 34) <| (fM_log 1003 (giM q3.2 5006 (Int32.toNatClampNeg (i + 1))) (giM q3.2 5006 (Int32.toNatClampNeg (i + 2))) q3.2).bind fun q7 => if q3.1 = q7.1 then (some q7.2) else (none)
def fW_22 (i : Int32) (M : Mem) : Option Mem :=
  gd (rdI M 5006 (i + 1)) <| gd (rdI M 5006 (i + 2)) <| gd (rdI M 5006 (i + 3)) <| gd (obM M 1 10 15) <| (fA_step 1 (giM M 5006 (Int32.toNatClampNeg (i + 1))) (giM M 5006 (Int32.toNatClampNeg (i + 2))) (giM M 5006 (Int32.toNatClampNeg (i + 3))) M).bind fun q4 => gd (rdI q4.2 5006 (i + 1)) <| gd (rdI q4.2 5006 (i + 2)) <| gd (rdI q4.2 5006 (i + 3)) <| gd (obM q4.2 1003 11 34) <| (fM_step 1003 (giM q4.2 5006 (Int32.toNatClampNeg (i + 1))) (giM q4.2 5006 (Int32.toNatClampNeg (i + 2))) (giM q4.2 5006 (Int32.toNatClampNeg (i + 3))) q4.2).bind fun q9 => if q4.1 = q9.1 then (some q9.2) else (none)
def fW_23 (i : Int32) (M : Mem) : Option Mem :=
  gd (rdI M 5006 (i + 1)) <| gd (obM M 1 10 15) <| (fA_waste 1 (giM M 5006 (Int32.toNatClampNeg (i + 1))) M).bind fun q2 => gd (rdI q2.2 5006 (i + 1)) <| gd (obM q2.2 1003 11 34) <| (fM_waste 1003 (giM q2.2 5006 (Int32.toNatClampNeg (i + 1))) q2.2).bind fun q5 => if q2.1 = q5.1 then (some q5.2) else (none)
def fW_24 (i : Int32) (M : Mem) : Option Mem :=
  gd (rdI M 5006 (i + 1)) <| gd (rdI M 5006 (i + 2)) <| gd (obM M 1 10 15) <| (fA_classes 1 (giM M 5006 (Int32.toNatClampNeg (i + 1))) (giM M 5006 (Int32.toNatClampNeg (i + 2))) M).bind fun q3 => gd (rdI q3.2 5006 (i + 1)) <| gd (rdI q3.2 5006 (i + 2)) <| gd (obM q3.2 1003 11 34) <| (fM_classes 1003 (giM q3.2 5006 (Int32.toNatClampNeg (i + 1))) (giM q3.2 5006 (Int32.toNatClampNeg (i + 2))) q3.2).bind fun q7 => if q3.1 = q7.1 then (some q7.2) else (none)
def fW_25 (i : Int32) (M : Mem) : Option Mem :=
  gd (rdI M 5006 (i + 1)) <| gd (rdI M 5006 (i + 2)) <| gd (obM M 1 10 15) <| (fA_would 1 (giM M 5006 (Int32.toNatClampNeg (i + 1))) (giM M 5006 (Int32.toNatClampNeg (i + 2))) M).bind fun q3 => gd (rdI q3.2 5006 (i + 1)) <| gd (rdI q3.2 5006 (i + 2)) <| gd (obM q3.2 1003 11 34) <| (fM_would 1003 (giM q3.2 5006 (Int32.toNatClampNeg (i + 1))) (giM q3.2 5006 (Int32.toNatClampNeg (i + 2))) q3.2).bind fun q7 => if q3.1 = q7.1 then (some q7.2) else (none)
def fW_26 (i : Int32) (M : Mem) : Option Mem :=
  gd (rdI M 5006 (i + 1)) <| gd (rdI M 5006 (i + 2)) <| gd (obM M 1 10 15) <| (fA_where 1 (giM M 5006 (Int32.toNatClampNeg (i + 1))) (giM M 5006 (Int32.toNatClampNeg (i + 2))) M).bind fun q3 => gd (rdI q3.2 5006 (i + 1)) <| gd (rdI q3.2 5006 (i + 2)) <| gd (obM q3.2 1003 11 34) <| (fM_where 1003 (giM q3.2 5006 (Int32.toNatClampNeg (i + 1))) (giM q3.2 5006 (Int32.toNatClampNeg (i + 2))) q3.2).bind fun q7 => if q3.1 = q7.1 then (some q7.2) else (none)
def fW_27 (i : Int32) (M : Mem) : Option Mem :=
  gd (rdI M 5006 (i + 1)) <| gd (rdI M 5006 (i + 2)) <| gd (rdI M 5006 (i + 3)) <| gd (obM M 1 10 15) <| (fA_series 1 (giM M 5006 (Int32.toNatClampNeg (i + 1))) (giM M 5006 (Int32.toNatClampNeg (i + 2))) (giM M 5006 (Int32.toNatClampNeg (i + 3))) M).bind fun q4 => gd (rdI q4.2 5006 (i + 1)) <| gd (rdI q4.2 5006 (i + 2)) <| gd (rdI q4.2 5006 (i + 3)) <| gd (obM q4.2 1003 11 34) <| (fM_series 1003 (giM q4.2 5006 (Int32.toNatClampNeg (i + 1))) (giM q4.2 5006 (Int32.toNatClampNeg (i + 2))) (giM q4.2 5006 (Int32.toNatClampNeg (i + 3))) q4.2).bind fun q9 => if q4.1 = q9.1 then (some q9.2) else (none)
def fW_28 (i : Int32) (M : Mem) : Option Mem :=
  gd (rdI M 5006 (i + 1)) <| gd (obM M 1 10 15) <| (fA_cheapest 1 (giM M 5006 (Int32.toNatClampNeg (i + 1))) M).bind fun q2 => gd (rdI q2.2 5006 (i + 1)) <| gd (obM q2.2 1003 11 34) <| (fM_cheapest 1003 (giM q2.2 5006 (Int32.toNatClampNeg (i + 1))) q2.2).bind fun q5 => if q2.1 = q5.1 then (some q5.2) else (none)
def fW_29 (i : Int32) (M : Mem) : Option Mem :=
  gd (rdI M 5006 (i + 1)) <| gd (rdI M 5006 (i + 2)) <| gd (obM M 1 10 15) <| (fA_run 1 (giM M 5006 (Int32.toNatClampNeg (i + 1))) (giM M 5006 (Int32.toNatClampNeg (i + 2))) M).bind fun q3 => gd (rdI q3.2 5006 (i + 1)) <| gd (rdI q3.2 5006 (i + 2)) <| gd (obM q3.2 1003 11 34) <| (fM_run 1003 (giM q3.2 5006 (Int32.toNatClampNeg (i + 1))) (giM q3.2 5006 (Int32.toNatClampNeg (i + 2))) q3.2).bind fun q7 => if q3.1 = q7.1 then (some q7.2) else (none)
def fW_30 (i : Int32) (M : Mem) : Option Mem :=
  gd (rdI M 5006 (i + 1)) <| gd (rdI M 5006 (i + 2)) <| gd (rdI M 5006 (i + 3)) <| gd (obM M 1 10 15) <| (fA_ways 1 (giM M 5006 (Int32.toNatClampNeg (i + 1))) (giM M 5006 (Int32.toNatClampNeg (i + 2))) (giM M 5006 (Int32.toNatClampNeg (i + 3))) M).bind fun q4 => gd (rdI q4.2 5006 (i + 1)) <| gd (rdI q4.2 5006 (i + 2)) <| gd (rdI q4.2 5006 (i + 3)) <| gd (obM q4.2 1003 11 34) <| (fM_ways 1003 (giM q4.2 5006 (Int32.toNatClampNeg (i + 1))) (giM q4.2 5006 (Int32.toNatClampNeg (i + 2))) (giM q4.2 5006 (Int32.toNatClampNeg (i + 3))) q4.2).bind fun q9 => if q4.1 = q9.1 then (some q9.2) else (none)
def fW_31 (i : Int32) (M : Mem) : Option Mem :=
  gd (rdI M 5006 (i + 1)) <| gd (rdI M 5006 (i + 2)) <| gd (obM M 1 10 15) <| (fA_shares 1 (giM M 5006 (Int32.toNatClampNeg (i + 1))) (giM M 5006 (Int32.toNatClampNeg (i + 2))) M).bind fun q3 => gd (rdI q3.2 5006 (i + 1)) <| gd (rdI q3.2 5006 (i + 2)) <| gd (obM q3.2 1003 11 34) <| (fM_shares 1003 (giM q3.2 5006 (Int32.toNatClampNeg (i + 1))) (giM q3.2 5006 (Int32.toNatClampNeg (i + 2))) q3.2).bind fun q7 => if q3.1 = q7.1 then (some q7.2) else (none)
def fW_32 (i : Int32) (M : Mem) : Option Mem :=
  gd (rdI M 5006 (i + 1)) <| gd (obM M 1 10 15) <| (fA_most 1 (giM M 5006 (Int32.toNatClampNeg (i + 1))) M).bind fun q2 => gd (rdI q2.2 5006 (i + 1)) <| gd (obM q2.2 1003 11 34) <| (fM_most 1003 (giM q2.2 5006 (Int32.toNatClampNeg (i + 1))) q2.2).bind fun q5 => if q2.1 = q5.1 then (some q5.2) else (none)
def fW_33 (i : Int32) (M : Mem) : Option Mem :=
  gd (obM M 1 10 15) <| (fA_image 1 M).bind fun q1 => gd (obM q1.2 1003 11 34) <| (fM_image 1003 q1.2).bind fun q3 => if q1.1 = q3.1 then (some q3.2) else (none)
def fW_34 (i : Int32) (M : Mem) : Option Mem :=
  gd (obM M 1 10 15) <| (fA_back 1 M).bind fun q1 => gd (obM q1.2 1003 11 34) <| (fM_back 1003 q1.2).bind fun q3 => if q1.1 = q3.1 then (some q3.2) else (none)
def fW_35 (i : Int32) (M : Mem) : Option Mem :=
  gd (rdI M 5006 (i + 1)) <| gd (obM M 1 10 15) <| (fA_count 1 (giM M 5006 (Int32.toNatClampNeg (i + 1))) M).bind fun q2 => gd (rdI q2.2 5006 (i + 1)) <| gd (obM q2.2 1003 11 34) <| (fM_count 1003 (giM q2.2 5006 (Int32.toNatClampNeg (i + 1))) q2.2).bind fun q5 => if q2.1 = q5.1 then (some q5.2) else (none)
def fW_step (v : Int32) (i : Int32) (M : Mem) : Option Mem :=
  if v = 0 then fW_0 i M else if v = 1 then fW_1 i M else if v = 2 then fW_2 i M else if v = 3 then fW_3 i M else if v = 4 then fW_4 i M else if v = 5 then fW_5 i M else if v = 6 then fW_6 i M else if v = 7 then fW_7 i M else if v = 8 then fW_8 i M else if v = 9 then fW_9 i M else if v = 10 then fW_10 i M else if v = 11 then fW_11 i M else if v = 12 then fW_12 i M else if v = 13 then fW_13 i M else if v = 14 then fW_14 i M else if v = 15 then fW_15 i M else if v = 16 then fW_16 i M else if v = 17 then fW_17 i M else if v = 18 then fW_18 i M else if v = 19 then fW_19 i M else if v = 20 then fW_20 i M else if v = 21 then fW_21 i M else if v = 22 then fW_22 i M else if v = 23 then fW_23 i M else if v = 24 then fW_24 i M else if v = 25 then fW_25 i M else if v = 26 then fW_26 i M else if v = 27 then fW_27 i M else if v = 28 then fW_28 i M else if v = 29 then fW_29 i M else if v = 30 then fW_30 i M else if v = 31 then fW_31 i M else if v = 32 then fW_32 i M else if v = 33 then fW_33 i M else if v = 34 then fW_34 i M else if v = 35 then fW_35 i M else some M
theorem ddW_law_0 : decode code 0 = .ok (.new 8, 3) := by decide +kernel
theorem ddW_law_3 : decode code 3 = .ok (.dup, 1) := by decide +kernel
theorem ddW_law_4 : decode code 4 = .ok (.invokespecial 15, 3) := by decide +kernel
theorem ddW_law_7 : decode code 7 = .ok (.astore_n 1, 1) := by decide +kernel
theorem ddW_law_8 : decode code 8 = .ok (.new 16, 3) := by decide +kernel
theorem ddW_law_11 : decode code 11 = .ok (.dup, 1) := by decide +kernel
theorem ddW_law_12 : decode code 12 = .ok (.invokespecial 18, 3) := by decide +kernel
theorem ddW_law_15 : decode code 15 = .ok (.astore_n 2, 1) := by decide +kernel
theorem ddW_law_16 : decode code 16 = .ok (.iconst 1, 1) := by decide +kernel
theorem ddW_law_17 : decode code 17 = .ok (.newarray .long, 2) := by decide +kernel
theorem ddW_law_19 : decode code 19 = .ok (.astore_n 3, 1) := by decide +kernel
theorem ddW_law_20 : decode code 20 = .ok (.iconst 0, 1) := by decide +kernel
theorem ddW_law_21 : decode code 21 = .ok (.istore 4, 2) := by decide +kernel
theorem ddW_law_23 : decode code 23 = .ok (.iload 4, 2) := by decide +kernel
theorem ddW_law_25 : decode code 25 = .ok (.aload_n 0, 1) := by decide +kernel
theorem ddW_law_26 : decode code 26 = .ok (.arraylength, 1) := by decide +kernel
theorem ddW_law_27 : decode code 27 = .ok (.bipush 6, 2) := by decide +kernel
theorem ddW_law_29 : decode code 29 = .ok (.isub, 1) := by decide +kernel
theorem ddW_law_30 : decode code 30 = .ok (.if_icmp .gt 1427, 3) := by decide +kernel
theorem ddW_law_33 : decode code 33 = .ok (.aload_n 0, 1) := by decide +kernel
theorem ddW_law_34 : decode code 34 = .ok (.iload 4, 2) := by decide +kernel
theorem ddW_law_36 : decode code 36 = .ok (.iaload, 1) := by decide +kernel
theorem ddW_law_37 : decode code 37 = .ok (.bipush 63, 2) := by decide +kernel
theorem ddW_law_39 : decode code 39 = .ok (.iand, 1) := by decide +kernel
theorem ddW_law_40 : decode code 40 = .ok (.tableswitch 1411 0 35 #[160, 233, 258, 283, 308, 333, 358, 426, 475, 512, 561, 610, 635, 672, 709, 734, 759, 784, 809, 878, 903, 916, 953, 1002, 1027, 1064, 1101, 1138, 1187, 1212, 1249, 1298, 1335, 1360, 1373, 1386], 160) := by decide +kernel
theorem ddW_law_200 : decode code 200 = .ok (.aload_n 1, 1) := by decide +kernel
theorem ddW_law_201 : decode code 201 = .ok (.aload_n 0, 1) := by decide +kernel
theorem ddW_law_202 : decode code 202 = .ok (.iload 4, 2) := by decide +kernel
theorem ddW_law_204 : decode code 204 = .ok (.iconst 1, 1) := by decide +kernel
theorem ddW_law_205 : decode code 205 = .ok (.iadd, 1) := by decide +kernel
theorem ddW_law_206 : decode code 206 = .ok (.iaload, 1) := by decide +kernel
theorem ddW_law_207 : decode code 207 = .ok (.aload_n 0, 1) := by decide +kernel
theorem ddW_law_208 : decode code 208 = .ok (.iload 4, 2) := by decide +kernel
theorem ddW_law_210 : decode code 210 = .ok (.iconst 2, 1) := by decide +kernel
theorem ddW_law_211 : decode code 211 = .ok (.iadd, 1) := by decide +kernel
theorem ddW_law_212 : decode code 212 = .ok (.iaload, 1) := by decide +kernel
theorem ddW_law_213 : decode code 213 = .ok (.aload_n 0, 1) := by decide +kernel
theorem ddW_law_214 : decode code 214 = .ok (.iload 4, 2) := by decide +kernel
theorem ddW_law_216 : decode code 216 = .ok (.iconst 3, 1) := by decide +kernel
theorem ddW_law_217 : decode code 217 = .ok (.iadd, 1) := by decide +kernel
theorem ddW_law_218 : decode code 218 = .ok (.iaload, 1) := by decide +kernel
theorem ddW_law_219 : decode code 219 = .ok (.aload_n 0, 1) := by decide +kernel
theorem ddW_law_220 : decode code 220 = .ok (.iload 4, 2) := by decide +kernel
theorem ddW_law_222 : decode code 222 = .ok (.iconst 4, 1) := by decide +kernel
theorem ddW_law_223 : decode code 223 = .ok (.iadd, 1) := by decide +kernel
theorem ddW_law_224 : decode code 224 = .ok (.iaload, 1) := by decide +kernel
theorem ddW_law_225 : decode code 225 = .ok (.aload_n 0, 1) := by decide +kernel
theorem ddW_law_226 : decode code 226 = .ok (.iload 4, 2) := by decide +kernel
theorem ddW_law_228 : decode code 228 = .ok (.iconst 5, 1) := by decide +kernel
theorem ddW_law_229 : decode code 229 = .ok (.iadd, 1) := by decide +kernel
theorem ddW_law_230 : decode code 230 = .ok (.iaload, 1) := by decide +kernel
theorem ddW_law_231 : decode code 231 = .ok (.invokevirtual 19, 3) := by decide +kernel
theorem ddW_law_234 : decode code 234 = .ok (.aload_n 2, 1) := by decide +kernel
theorem ddW_law_235 : decode code 235 = .ok (.aload_n 0, 1) := by decide +kernel
theorem ddW_law_236 : decode code 236 = .ok (.iload 4, 2) := by decide +kernel
theorem ddW_law_238 : decode code 238 = .ok (.iconst 1, 1) := by decide +kernel
theorem ddW_law_239 : decode code 239 = .ok (.iadd, 1) := by decide +kernel
theorem ddW_law_240 : decode code 240 = .ok (.iaload, 1) := by decide +kernel
theorem ddW_law_241 : decode code 241 = .ok (.aload_n 0, 1) := by decide +kernel
theorem ddW_law_242 : decode code 242 = .ok (.iload 4, 2) := by decide +kernel
theorem ddW_law_244 : decode code 244 = .ok (.iconst 2, 1) := by decide +kernel
theorem ddW_law_245 : decode code 245 = .ok (.iadd, 1) := by decide +kernel
theorem ddW_law_246 : decode code 246 = .ok (.iaload, 1) := by decide +kernel
theorem ddW_law_247 : decode code 247 = .ok (.aload_n 0, 1) := by decide +kernel
theorem ddW_law_248 : decode code 248 = .ok (.iload 4, 2) := by decide +kernel
theorem ddW_law_250 : decode code 250 = .ok (.iconst 3, 1) := by decide +kernel
theorem ddW_law_251 : decode code 251 = .ok (.iadd, 1) := by decide +kernel
theorem ddW_law_252 : decode code 252 = .ok (.iaload, 1) := by decide +kernel
theorem ddW_law_253 : decode code 253 = .ok (.aload_n 0, 1) := by decide +kernel
theorem ddW_law_254 : decode code 254 = .ok (.iload 4, 2) := by decide +kernel
theorem ddW_law_256 : decode code 256 = .ok (.iconst 4, 1) := by decide +kernel
theorem ddW_law_257 : decode code 257 = .ok (.iadd, 1) := by decide +kernel
theorem ddW_law_258 : decode code 258 = .ok (.iaload, 1) := by decide +kernel
theorem ddW_law_259 : decode code 259 = .ok (.aload_n 0, 1) := by decide +kernel
theorem ddW_law_260 : decode code 260 = .ok (.iload 4, 2) := by decide +kernel
theorem ddW_law_262 : decode code 262 = .ok (.iconst 5, 1) := by decide +kernel
theorem ddW_law_263 : decode code 263 = .ok (.iadd, 1) := by decide +kernel
theorem ddW_law_264 : decode code 264 = .ok (.iaload, 1) := by decide +kernel
theorem ddW_law_265 : decode code 265 = .ok (.invokevirtual 23, 3) := by decide +kernel
theorem ddW_law_268 : decode code 268 = .ok (.if_icmp .eq 1183, 3) := by decide +kernel
theorem ddW_law_271 : decode code 271 = .ok (.iconst 0, 1) := by decide +kernel
theorem ddW_law_272 : decode code 272 = .ok (.ireturn, 1) := by decide +kernel
theorem ddW_law_273 : decode code 273 = .ok (.aload_n 1, 1) := by decide +kernel
theorem ddW_law_274 : decode code 274 = .ok (.aload_n 0, 1) := by decide +kernel
theorem ddW_law_275 : decode code 275 = .ok (.iload 4, 2) := by decide +kernel
theorem ddW_law_277 : decode code 277 = .ok (.iconst 1, 1) := by decide +kernel
theorem ddW_law_278 : decode code 278 = .ok (.iadd, 1) := by decide +kernel
theorem ddW_law_279 : decode code 279 = .ok (.iaload, 1) := by decide +kernel
theorem ddW_law_280 : decode code 280 = .ok (.invokevirtual 24, 3) := by decide +kernel
theorem ddW_law_283 : decode code 283 = .ok (.aload_n 2, 1) := by decide +kernel
theorem ddW_law_284 : decode code 284 = .ok (.aload_n 0, 1) := by decide +kernel
theorem ddW_law_285 : decode code 285 = .ok (.iload 4, 2) := by decide +kernel
theorem ddW_law_287 : decode code 287 = .ok (.iconst 1, 1) := by decide +kernel
theorem ddW_law_288 : decode code 288 = .ok (.iadd, 1) := by decide +kernel
theorem ddW_law_289 : decode code 289 = .ok (.iaload, 1) := by decide +kernel
theorem ddW_law_290 : decode code 290 = .ok (.invokevirtual 28, 3) := by decide +kernel
theorem ddW_law_293 : decode code 293 = .ok (.if_icmp .eq 1158, 3) := by decide +kernel
theorem ddW_law_296 : decode code 296 = .ok (.iconst 0, 1) := by decide +kernel
theorem ddW_law_297 : decode code 297 = .ok (.ireturn, 1) := by decide +kernel
theorem ddW_law_298 : decode code 298 = .ok (.aload_n 1, 1) := by decide +kernel
theorem ddW_law_299 : decode code 299 = .ok (.aload_n 0, 1) := by decide +kernel
theorem ddW_law_300 : decode code 300 = .ok (.iload 4, 2) := by decide +kernel
theorem ddW_law_302 : decode code 302 = .ok (.iconst 1, 1) := by decide +kernel
theorem ddW_law_303 : decode code 303 = .ok (.iadd, 1) := by decide +kernel
theorem ddW_law_304 : decode code 304 = .ok (.iaload, 1) := by decide +kernel
theorem ddW_law_305 : decode code 305 = .ok (.invokevirtual 29, 3) := by decide +kernel
theorem ddW_law_308 : decode code 308 = .ok (.aload_n 2, 1) := by decide +kernel
theorem ddW_law_309 : decode code 309 = .ok (.aload_n 0, 1) := by decide +kernel
theorem ddW_law_310 : decode code 310 = .ok (.iload 4, 2) := by decide +kernel
theorem ddW_law_312 : decode code 312 = .ok (.iconst 1, 1) := by decide +kernel
theorem ddW_law_313 : decode code 313 = .ok (.iadd, 1) := by decide +kernel
theorem ddW_law_314 : decode code 314 = .ok (.iaload, 1) := by decide +kernel
theorem ddW_law_315 : decode code 315 = .ok (.invokevirtual 33, 3) := by decide +kernel
theorem ddW_law_318 : decode code 318 = .ok (.if_icmp .eq 1133, 3) := by decide +kernel
theorem ddW_law_321 : decode code 321 = .ok (.iconst 0, 1) := by decide +kernel
theorem ddW_law_322 : decode code 322 = .ok (.ireturn, 1) := by decide +kernel
theorem ddW_law_323 : decode code 323 = .ok (.aload_n 1, 1) := by decide +kernel
theorem ddW_law_324 : decode code 324 = .ok (.aload_n 0, 1) := by decide +kernel
theorem ddW_law_325 : decode code 325 = .ok (.iload 4, 2) := by decide +kernel
theorem ddW_law_327 : decode code 327 = .ok (.iconst 1, 1) := by decide +kernel
theorem ddW_law_328 : decode code 328 = .ok (.iadd, 1) := by decide +kernel
theorem ddW_law_329 : decode code 329 = .ok (.iaload, 1) := by decide +kernel
theorem ddW_law_330 : decode code 330 = .ok (.invokevirtual 34, 3) := by decide +kernel
theorem ddW_law_333 : decode code 333 = .ok (.aload_n 2, 1) := by decide +kernel
theorem ddW_law_334 : decode code 334 = .ok (.aload_n 0, 1) := by decide +kernel
theorem ddW_law_335 : decode code 335 = .ok (.iload 4, 2) := by decide +kernel
theorem ddW_law_337 : decode code 337 = .ok (.iconst 1, 1) := by decide +kernel
theorem ddW_law_338 : decode code 338 = .ok (.iadd, 1) := by decide +kernel
theorem ddW_law_339 : decode code 339 = .ok (.iaload, 1) := by decide +kernel
theorem ddW_law_340 : decode code 340 = .ok (.invokevirtual 37, 3) := by decide +kernel
theorem ddW_law_343 : decode code 343 = .ok (.if_icmp .eq 1108, 3) := by decide +kernel
theorem ddW_law_346 : decode code 346 = .ok (.iconst 0, 1) := by decide +kernel
theorem ddW_law_347 : decode code 347 = .ok (.ireturn, 1) := by decide +kernel
theorem ddW_law_348 : decode code 348 = .ok (.aload_n 1, 1) := by decide +kernel
theorem ddW_law_349 : decode code 349 = .ok (.aload_n 0, 1) := by decide +kernel
theorem ddW_law_350 : decode code 350 = .ok (.iload 4, 2) := by decide +kernel
theorem ddW_law_352 : decode code 352 = .ok (.iconst 1, 1) := by decide +kernel
theorem ddW_law_353 : decode code 353 = .ok (.iadd, 1) := by decide +kernel
theorem ddW_law_354 : decode code 354 = .ok (.iaload, 1) := by decide +kernel
theorem ddW_law_355 : decode code 355 = .ok (.invokevirtual 38, 3) := by decide +kernel
theorem ddW_law_358 : decode code 358 = .ok (.aload_n 2, 1) := by decide +kernel
theorem ddW_law_359 : decode code 359 = .ok (.aload_n 0, 1) := by decide +kernel
theorem ddW_law_360 : decode code 360 = .ok (.iload 4, 2) := by decide +kernel
theorem ddW_law_362 : decode code 362 = .ok (.iconst 1, 1) := by decide +kernel
theorem ddW_law_363 : decode code 363 = .ok (.iadd, 1) := by decide +kernel
theorem ddW_law_364 : decode code 364 = .ok (.iaload, 1) := by decide +kernel
theorem ddW_law_365 : decode code 365 = .ok (.invokevirtual 41, 3) := by decide +kernel
theorem ddW_law_368 : decode code 368 = .ok (.if_icmp .eq 1083, 3) := by decide +kernel
theorem ddW_law_371 : decode code 371 = .ok (.iconst 0, 1) := by decide +kernel
theorem ddW_law_372 : decode code 372 = .ok (.ireturn, 1) := by decide +kernel
theorem ddW_law_373 : decode code 373 = .ok (.aload_n 1, 1) := by decide +kernel
theorem ddW_law_374 : decode code 374 = .ok (.aload_n 0, 1) := by decide +kernel
theorem ddW_law_375 : decode code 375 = .ok (.iload 4, 2) := by decide +kernel
theorem ddW_law_377 : decode code 377 = .ok (.iconst 1, 1) := by decide +kernel
theorem ddW_law_378 : decode code 378 = .ok (.iadd, 1) := by decide +kernel
theorem ddW_law_379 : decode code 379 = .ok (.iaload, 1) := by decide +kernel
theorem ddW_law_380 : decode code 380 = .ok (.invokevirtual 42, 3) := by decide +kernel
theorem ddW_law_383 : decode code 383 = .ok (.aload_n 2, 1) := by decide +kernel
theorem ddW_law_384 : decode code 384 = .ok (.aload_n 0, 1) := by decide +kernel
theorem ddW_law_385 : decode code 385 = .ok (.iload 4, 2) := by decide +kernel
theorem ddW_law_387 : decode code 387 = .ok (.iconst 1, 1) := by decide +kernel
theorem ddW_law_388 : decode code 388 = .ok (.iadd, 1) := by decide +kernel
theorem ddW_law_389 : decode code 389 = .ok (.iaload, 1) := by decide +kernel
theorem ddW_law_390 : decode code 390 = .ok (.invokevirtual 45, 3) := by decide +kernel
theorem ddW_law_393 : decode code 393 = .ok (.if_icmp .eq 1058, 3) := by decide +kernel
theorem ddW_law_396 : decode code 396 = .ok (.iconst 0, 1) := by decide +kernel
theorem ddW_law_397 : decode code 397 = .ok (.ireturn, 1) := by decide +kernel
theorem ddW_law_398 : decode code 398 = .ok (.aload_n 1, 1) := by decide +kernel
theorem ddW_law_399 : decode code 399 = .ok (.aload_n 0, 1) := by decide +kernel
theorem ddW_law_400 : decode code 400 = .ok (.iload 4, 2) := by decide +kernel
theorem ddW_law_402 : decode code 402 = .ok (.iconst 1, 1) := by decide +kernel
theorem ddW_law_403 : decode code 403 = .ok (.iadd, 1) := by decide +kernel
theorem ddW_law_404 : decode code 404 = .ok (.iaload, 1) := by decide +kernel
theorem ddW_law_405 : decode code 405 = .ok (.aload_n 0, 1) := by decide +kernel
theorem ddW_law_406 : decode code 406 = .ok (.iload 4, 2) := by decide +kernel
theorem ddW_law_408 : decode code 408 = .ok (.iconst 2, 1) := by decide +kernel
theorem ddW_law_409 : decode code 409 = .ok (.iadd, 1) := by decide +kernel
theorem ddW_law_410 : decode code 410 = .ok (.iaload, 1) := by decide +kernel
theorem ddW_law_411 : decode code 411 = .ok (.aload_n 3, 1) := by decide +kernel
theorem ddW_law_412 : decode code 412 = .ok (.invokestatic 46, 3) := by decide +kernel
theorem ddW_law_415 : decode code 415 = .ok (.istore 5, 2) := by decide +kernel
theorem ddW_law_417 : decode code 417 = .ok (.aload_n 2, 1) := by decide +kernel
theorem ddW_law_418 : decode code 418 = .ok (.aload_n 0, 1) := by decide +kernel
theorem ddW_law_419 : decode code 419 = .ok (.iload 4, 2) := by decide +kernel
theorem ddW_law_421 : decode code 421 = .ok (.iconst 1, 1) := by decide +kernel
theorem ddW_law_422 : decode code 422 = .ok (.iadd, 1) := by decide +kernel
theorem ddW_law_423 : decode code 423 = .ok (.iaload, 1) := by decide +kernel
theorem ddW_law_424 : decode code 424 = .ok (.aload_n 0, 1) := by decide +kernel
theorem ddW_law_425 : decode code 425 = .ok (.iload 4, 2) := by decide +kernel
theorem ddW_law_427 : decode code 427 = .ok (.iconst 2, 1) := by decide +kernel
theorem ddW_law_428 : decode code 428 = .ok (.iadd, 1) := by decide +kernel
theorem ddW_law_429 : decode code 429 = .ok (.iaload, 1) := by decide +kernel
theorem ddW_law_430 : decode code 430 = .ok (.invokevirtual 51, 3) := by decide +kernel
theorem ddW_law_433 : decode code 433 = .ok (.istore 6, 2) := by decide +kernel
theorem ddW_law_435 : decode code 435 = .ok (.aload_n 2, 1) := by decide +kernel
theorem ddW_law_436 : decode code 436 = .ok (.invokevirtual 52, 3) := by decide +kernel
theorem ddW_law_439 : decode code 439 = .ok (.iload 5, 2) := by decide +kernel
theorem ddW_law_441 : decode code 441 = .ok (.if_icmp .eq 5, 3) := by decide +kernel
theorem ddW_law_444 : decode code 444 = .ok (.iconst 0, 1) := by decide +kernel
theorem ddW_law_445 : decode code 445 = .ok (.ireturn, 1) := by decide +kernel
theorem ddW_law_446 : decode code 446 = .ok (.iload 5, 2) := by decide +kernel
theorem ddW_law_448 : decode code 448 = .ok (.ifCond .ne 15, 3) := by decide +kernel
theorem ddW_law_451 : decode code 451 = .ok (.aload_n 3, 1) := by decide +kernel
theorem ddW_law_452 : decode code 452 = .ok (.iconst 0, 1) := by decide +kernel
theorem ddW_law_453 : decode code 453 = .ok (.laload, 1) := by decide +kernel
theorem ddW_law_454 : decode code 454 = .ok (.iload 6, 2) := by decide +kernel
theorem ddW_law_456 : decode code 456 = .ok (.i2l, 1) := by decide +kernel
theorem ddW_law_457 : decode code 457 = .ok (.lcmp, 1) := by decide +kernel
theorem ddW_law_458 : decode code 458 = .ok (.ifCond .eq 5, 3) := by decide +kernel
theorem ddW_law_461 : decode code 461 = .ok (.iconst 0, 1) := by decide +kernel
theorem ddW_law_462 : decode code 462 = .ok (.ireturn, 1) := by decide +kernel
theorem ddW_law_463 : decode code 463 = .ok (.goto 988, 3) := by decide +kernel
theorem ddW_law_466 : decode code 466 = .ok (.aload_n 1, 1) := by decide +kernel
theorem ddW_law_467 : decode code 467 = .ok (.aload_n 0, 1) := by decide +kernel
theorem ddW_law_468 : decode code 468 = .ok (.iload 4, 2) := by decide +kernel
theorem ddW_law_470 : decode code 470 = .ok (.iconst 1, 1) := by decide +kernel
theorem ddW_law_471 : decode code 471 = .ok (.iadd, 1) := by decide +kernel
theorem ddW_law_472 : decode code 472 = .ok (.iaload, 1) := by decide +kernel
theorem ddW_law_473 : decode code 473 = .ok (.aload_n 0, 1) := by decide +kernel
theorem ddW_law_474 : decode code 474 = .ok (.iload 4, 2) := by decide +kernel
theorem ddW_law_476 : decode code 476 = .ok (.iconst 2, 1) := by decide +kernel
theorem ddW_law_477 : decode code 477 = .ok (.iadd, 1) := by decide +kernel
theorem ddW_law_478 : decode code 478 = .ok (.iaload, 1) := by decide +kernel
theorem ddW_law_479 : decode code 479 = .ok (.aload_n 0, 1) := by decide +kernel
theorem ddW_law_480 : decode code 480 = .ok (.iload 4, 2) := by decide +kernel
theorem ddW_law_482 : decode code 482 = .ok (.iconst 3, 1) := by decide +kernel
theorem ddW_law_483 : decode code 483 = .ok (.iadd, 1) := by decide +kernel
theorem ddW_law_484 : decode code 484 = .ok (.iaload, 1) := by decide +kernel
theorem ddW_law_485 : decode code 485 = .ok (.invokevirtual 56, 3) := by decide +kernel
theorem ddW_law_488 : decode code 488 = .ok (.aload_n 2, 1) := by decide +kernel
theorem ddW_law_489 : decode code 489 = .ok (.aload_n 0, 1) := by decide +kernel
theorem ddW_law_490 : decode code 490 = .ok (.iload 4, 2) := by decide +kernel
theorem ddW_law_492 : decode code 492 = .ok (.iconst 1, 1) := by decide +kernel
theorem ddW_law_493 : decode code 493 = .ok (.iadd, 1) := by decide +kernel
theorem ddW_law_494 : decode code 494 = .ok (.iaload, 1) := by decide +kernel
theorem ddW_law_495 : decode code 495 = .ok (.aload_n 0, 1) := by decide +kernel
theorem ddW_law_496 : decode code 496 = .ok (.iload 4, 2) := by decide +kernel
theorem ddW_law_498 : decode code 498 = .ok (.iconst 2, 1) := by decide +kernel
theorem ddW_law_499 : decode code 499 = .ok (.iadd, 1) := by decide +kernel
theorem ddW_law_500 : decode code 500 = .ok (.iaload, 1) := by decide +kernel
theorem ddW_law_501 : decode code 501 = .ok (.aload_n 0, 1) := by decide +kernel
theorem ddW_law_502 : decode code 502 = .ok (.iload 4, 2) := by decide +kernel
theorem ddW_law_504 : decode code 504 = .ok (.iconst 3, 1) := by decide +kernel
theorem ddW_law_505 : decode code 505 = .ok (.iadd, 1) := by decide +kernel
theorem ddW_law_506 : decode code 506 = .ok (.iaload, 1) := by decide +kernel
theorem ddW_law_507 : decode code 507 = .ok (.invokevirtual 60, 3) := by decide +kernel
theorem ddW_law_510 : decode code 510 = .ok (.if_icmp .eq 941, 3) := by decide +kernel
theorem ddW_law_513 : decode code 513 = .ok (.iconst 0, 1) := by decide +kernel
theorem ddW_law_514 : decode code 514 = .ok (.ireturn, 1) := by decide +kernel
theorem ddW_law_515 : decode code 515 = .ok (.aload_n 1, 1) := by decide +kernel
theorem ddW_law_516 : decode code 516 = .ok (.aload_n 0, 1) := by decide +kernel
theorem ddW_law_517 : decode code 517 = .ok (.iload 4, 2) := by decide +kernel
theorem ddW_law_519 : decode code 519 = .ok (.iconst 1, 1) := by decide +kernel
theorem ddW_law_520 : decode code 520 = .ok (.iadd, 1) := by decide +kernel
theorem ddW_law_521 : decode code 521 = .ok (.iaload, 1) := by decide +kernel
theorem ddW_law_522 : decode code 522 = .ok (.aload_n 0, 1) := by decide +kernel
theorem ddW_law_523 : decode code 523 = .ok (.iload 4, 2) := by decide +kernel
theorem ddW_law_525 : decode code 525 = .ok (.iconst 2, 1) := by decide +kernel
theorem ddW_law_526 : decode code 526 = .ok (.iadd, 1) := by decide +kernel
theorem ddW_law_527 : decode code 527 = .ok (.iaload, 1) := by decide +kernel
theorem ddW_law_528 : decode code 528 = .ok (.invokevirtual 61, 3) := by decide +kernel
theorem ddW_law_531 : decode code 531 = .ok (.aload_n 2, 1) := by decide +kernel
theorem ddW_law_532 : decode code 532 = .ok (.aload_n 0, 1) := by decide +kernel
theorem ddW_law_533 : decode code 533 = .ok (.iload 4, 2) := by decide +kernel
theorem ddW_law_535 : decode code 535 = .ok (.iconst 1, 1) := by decide +kernel
theorem ddW_law_536 : decode code 536 = .ok (.iadd, 1) := by decide +kernel
theorem ddW_law_537 : decode code 537 = .ok (.iaload, 1) := by decide +kernel
theorem ddW_law_538 : decode code 538 = .ok (.aload_n 0, 1) := by decide +kernel
theorem ddW_law_539 : decode code 539 = .ok (.iload 4, 2) := by decide +kernel
theorem ddW_law_541 : decode code 541 = .ok (.iconst 2, 1) := by decide +kernel
theorem ddW_law_542 : decode code 542 = .ok (.iadd, 1) := by decide +kernel
theorem ddW_law_543 : decode code 543 = .ok (.iaload, 1) := by decide +kernel
theorem ddW_law_544 : decode code 544 = .ok (.invokevirtual 64, 3) := by decide +kernel
theorem ddW_law_547 : decode code 547 = .ok (.if_icmp .eq 904, 3) := by decide +kernel
theorem ddW_law_550 : decode code 550 = .ok (.iconst 0, 1) := by decide +kernel
theorem ddW_law_551 : decode code 551 = .ok (.ireturn, 1) := by decide +kernel
theorem ddW_law_552 : decode code 552 = .ok (.aload_n 1, 1) := by decide +kernel
theorem ddW_law_553 : decode code 553 = .ok (.aload_n 0, 1) := by decide +kernel
theorem ddW_law_554 : decode code 554 = .ok (.iload 4, 2) := by decide +kernel
theorem ddW_law_556 : decode code 556 = .ok (.iconst 1, 1) := by decide +kernel
theorem ddW_law_557 : decode code 557 = .ok (.iadd, 1) := by decide +kernel
theorem ddW_law_558 : decode code 558 = .ok (.iaload, 1) := by decide +kernel
theorem ddW_law_559 : decode code 559 = .ok (.aload_n 0, 1) := by decide +kernel
theorem ddW_law_560 : decode code 560 = .ok (.iload 4, 2) := by decide +kernel
theorem ddW_law_562 : decode code 562 = .ok (.iconst 2, 1) := by decide +kernel
theorem ddW_law_563 : decode code 563 = .ok (.iadd, 1) := by decide +kernel
theorem ddW_law_564 : decode code 564 = .ok (.iaload, 1) := by decide +kernel
theorem ddW_law_565 : decode code 565 = .ok (.aload_n 0, 1) := by decide +kernel
theorem ddW_law_566 : decode code 566 = .ok (.iload 4, 2) := by decide +kernel
theorem ddW_law_568 : decode code 568 = .ok (.iconst 3, 1) := by decide +kernel
theorem ddW_law_569 : decode code 569 = .ok (.iadd, 1) := by decide +kernel
theorem ddW_law_570 : decode code 570 = .ok (.iaload, 1) := by decide +kernel
theorem ddW_law_571 : decode code 571 = .ok (.invokevirtual 65, 3) := by decide +kernel
theorem ddW_law_574 : decode code 574 = .ok (.aload_n 2, 1) := by decide +kernel
theorem ddW_law_575 : decode code 575 = .ok (.aload_n 0, 1) := by decide +kernel
theorem ddW_law_576 : decode code 576 = .ok (.iload 4, 2) := by decide +kernel
theorem ddW_law_578 : decode code 578 = .ok (.iconst 1, 1) := by decide +kernel
theorem ddW_law_579 : decode code 579 = .ok (.iadd, 1) := by decide +kernel
theorem ddW_law_580 : decode code 580 = .ok (.iaload, 1) := by decide +kernel
theorem ddW_law_581 : decode code 581 = .ok (.aload_n 0, 1) := by decide +kernel
theorem ddW_law_582 : decode code 582 = .ok (.iload 4, 2) := by decide +kernel
theorem ddW_law_584 : decode code 584 = .ok (.iconst 2, 1) := by decide +kernel
theorem ddW_law_585 : decode code 585 = .ok (.iadd, 1) := by decide +kernel
theorem ddW_law_586 : decode code 586 = .ok (.iaload, 1) := by decide +kernel
theorem ddW_law_587 : decode code 587 = .ok (.aload_n 0, 1) := by decide +kernel
theorem ddW_law_588 : decode code 588 = .ok (.iload 4, 2) := by decide +kernel
theorem ddW_law_590 : decode code 590 = .ok (.iconst 3, 1) := by decide +kernel
theorem ddW_law_591 : decode code 591 = .ok (.iadd, 1) := by decide +kernel
theorem ddW_law_592 : decode code 592 = .ok (.iaload, 1) := by decide +kernel
theorem ddW_law_593 : decode code 593 = .ok (.invokevirtual 68, 3) := by decide +kernel
theorem ddW_law_596 : decode code 596 = .ok (.if_icmp .eq 855, 3) := by decide +kernel
theorem ddW_law_599 : decode code 599 = .ok (.iconst 0, 1) := by decide +kernel
theorem ddW_law_600 : decode code 600 = .ok (.ireturn, 1) := by decide +kernel
theorem ddW_law_601 : decode code 601 = .ok (.aload_n 1, 1) := by decide +kernel
theorem ddW_law_602 : decode code 602 = .ok (.aload_n 0, 1) := by decide +kernel
theorem ddW_law_603 : decode code 603 = .ok (.iload 4, 2) := by decide +kernel
theorem ddW_law_605 : decode code 605 = .ok (.iconst 1, 1) := by decide +kernel
theorem ddW_law_606 : decode code 606 = .ok (.iadd, 1) := by decide +kernel
theorem ddW_law_607 : decode code 607 = .ok (.iaload, 1) := by decide +kernel
theorem ddW_law_608 : decode code 608 = .ok (.aload_n 0, 1) := by decide +kernel
theorem ddW_law_609 : decode code 609 = .ok (.iload 4, 2) := by decide +kernel
theorem ddW_law_611 : decode code 611 = .ok (.iconst 2, 1) := by decide +kernel
theorem ddW_law_612 : decode code 612 = .ok (.iadd, 1) := by decide +kernel
theorem ddW_law_613 : decode code 613 = .ok (.iaload, 1) := by decide +kernel
theorem ddW_law_614 : decode code 614 = .ok (.aload_n 0, 1) := by decide +kernel
theorem ddW_law_615 : decode code 615 = .ok (.iload 4, 2) := by decide +kernel
theorem ddW_law_617 : decode code 617 = .ok (.iconst 3, 1) := by decide +kernel
theorem ddW_law_618 : decode code 618 = .ok (.iadd, 1) := by decide +kernel
theorem ddW_law_619 : decode code 619 = .ok (.iaload, 1) := by decide +kernel
theorem ddW_law_620 : decode code 620 = .ok (.invokevirtual 69, 3) := by decide +kernel
theorem ddW_law_623 : decode code 623 = .ok (.aload_n 2, 1) := by decide +kernel
theorem ddW_law_624 : decode code 624 = .ok (.aload_n 0, 1) := by decide +kernel
theorem ddW_law_625 : decode code 625 = .ok (.iload 4, 2) := by decide +kernel
theorem ddW_law_627 : decode code 627 = .ok (.iconst 1, 1) := by decide +kernel
theorem ddW_law_628 : decode code 628 = .ok (.iadd, 1) := by decide +kernel
theorem ddW_law_629 : decode code 629 = .ok (.iaload, 1) := by decide +kernel
theorem ddW_law_630 : decode code 630 = .ok (.aload_n 0, 1) := by decide +kernel
theorem ddW_law_631 : decode code 631 = .ok (.iload 4, 2) := by decide +kernel
theorem ddW_law_633 : decode code 633 = .ok (.iconst 2, 1) := by decide +kernel
theorem ddW_law_634 : decode code 634 = .ok (.iadd, 1) := by decide +kernel
theorem ddW_law_635 : decode code 635 = .ok (.iaload, 1) := by decide +kernel
theorem ddW_law_636 : decode code 636 = .ok (.aload_n 0, 1) := by decide +kernel
theorem ddW_law_637 : decode code 637 = .ok (.iload 4, 2) := by decide +kernel
theorem ddW_law_639 : decode code 639 = .ok (.iconst 3, 1) := by decide +kernel
theorem ddW_law_640 : decode code 640 = .ok (.iadd, 1) := by decide +kernel
theorem ddW_law_641 : decode code 641 = .ok (.iaload, 1) := by decide +kernel
theorem ddW_law_642 : decode code 642 = .ok (.invokevirtual 72, 3) := by decide +kernel
theorem ddW_law_645 : decode code 645 = .ok (.if_icmp .eq 806, 3) := by decide +kernel
theorem ddW_law_648 : decode code 648 = .ok (.iconst 0, 1) := by decide +kernel
theorem ddW_law_649 : decode code 649 = .ok (.ireturn, 1) := by decide +kernel
theorem ddW_law_650 : decode code 650 = .ok (.aload_n 1, 1) := by decide +kernel
theorem ddW_law_651 : decode code 651 = .ok (.aload_n 0, 1) := by decide +kernel
theorem ddW_law_652 : decode code 652 = .ok (.iload 4, 2) := by decide +kernel
theorem ddW_law_654 : decode code 654 = .ok (.iconst 1, 1) := by decide +kernel
theorem ddW_law_655 : decode code 655 = .ok (.iadd, 1) := by decide +kernel
theorem ddW_law_656 : decode code 656 = .ok (.iaload, 1) := by decide +kernel
theorem ddW_law_657 : decode code 657 = .ok (.invokevirtual 73, 3) := by decide +kernel
theorem ddW_law_660 : decode code 660 = .ok (.aload_n 2, 1) := by decide +kernel
theorem ddW_law_661 : decode code 661 = .ok (.aload_n 0, 1) := by decide +kernel
theorem ddW_law_662 : decode code 662 = .ok (.iload 4, 2) := by decide +kernel
theorem ddW_law_664 : decode code 664 = .ok (.iconst 1, 1) := by decide +kernel
theorem ddW_law_665 : decode code 665 = .ok (.iadd, 1) := by decide +kernel
theorem ddW_law_666 : decode code 666 = .ok (.iaload, 1) := by decide +kernel
theorem ddW_law_667 : decode code 667 = .ok (.invokevirtual 76, 3) := by decide +kernel
theorem ddW_law_670 : decode code 670 = .ok (.if_icmp .eq 781, 3) := by decide +kernel
theorem ddW_law_673 : decode code 673 = .ok (.iconst 0, 1) := by decide +kernel
theorem ddW_law_674 : decode code 674 = .ok (.ireturn, 1) := by decide +kernel
theorem ddW_law_675 : decode code 675 = .ok (.aload_n 1, 1) := by decide +kernel
theorem ddW_law_676 : decode code 676 = .ok (.aload_n 0, 1) := by decide +kernel
theorem ddW_law_677 : decode code 677 = .ok (.iload 4, 2) := by decide +kernel
theorem ddW_law_679 : decode code 679 = .ok (.iconst 1, 1) := by decide +kernel
theorem ddW_law_680 : decode code 680 = .ok (.iadd, 1) := by decide +kernel
theorem ddW_law_681 : decode code 681 = .ok (.iaload, 1) := by decide +kernel
theorem ddW_law_682 : decode code 682 = .ok (.aload_n 0, 1) := by decide +kernel
theorem ddW_law_683 : decode code 683 = .ok (.iload 4, 2) := by decide +kernel
theorem ddW_law_685 : decode code 685 = .ok (.iconst 2, 1) := by decide +kernel
theorem ddW_law_686 : decode code 686 = .ok (.iadd, 1) := by decide +kernel
theorem ddW_law_687 : decode code 687 = .ok (.iaload, 1) := by decide +kernel
theorem ddW_law_688 : decode code 688 = .ok (.invokevirtual 77, 3) := by decide +kernel
theorem ddW_law_691 : decode code 691 = .ok (.aload_n 2, 1) := by decide +kernel
theorem ddW_law_692 : decode code 692 = .ok (.aload_n 0, 1) := by decide +kernel
theorem ddW_law_693 : decode code 693 = .ok (.iload 4, 2) := by decide +kernel
theorem ddW_law_695 : decode code 695 = .ok (.iconst 1, 1) := by decide +kernel
theorem ddW_law_696 : decode code 696 = .ok (.iadd, 1) := by decide +kernel
theorem ddW_law_697 : decode code 697 = .ok (.iaload, 1) := by decide +kernel
theorem ddW_law_698 : decode code 698 = .ok (.aload_n 0, 1) := by decide +kernel
theorem ddW_law_699 : decode code 699 = .ok (.iload 4, 2) := by decide +kernel
theorem ddW_law_701 : decode code 701 = .ok (.iconst 2, 1) := by decide +kernel
theorem ddW_law_702 : decode code 702 = .ok (.iadd, 1) := by decide +kernel
theorem ddW_law_703 : decode code 703 = .ok (.iaload, 1) := by decide +kernel
theorem ddW_law_704 : decode code 704 = .ok (.invokevirtual 80, 3) := by decide +kernel
theorem ddW_law_707 : decode code 707 = .ok (.if_icmp .eq 744, 3) := by decide +kernel
theorem ddW_law_710 : decode code 710 = .ok (.iconst 0, 1) := by decide +kernel
theorem ddW_law_711 : decode code 711 = .ok (.ireturn, 1) := by decide +kernel
theorem ddW_law_712 : decode code 712 = .ok (.aload_n 1, 1) := by decide +kernel
theorem ddW_law_713 : decode code 713 = .ok (.aload_n 0, 1) := by decide +kernel
theorem ddW_law_714 : decode code 714 = .ok (.iload 4, 2) := by decide +kernel
theorem ddW_law_716 : decode code 716 = .ok (.iconst 1, 1) := by decide +kernel
theorem ddW_law_717 : decode code 717 = .ok (.iadd, 1) := by decide +kernel
theorem ddW_law_718 : decode code 718 = .ok (.iaload, 1) := by decide +kernel
theorem ddW_law_719 : decode code 719 = .ok (.aload_n 0, 1) := by decide +kernel
theorem ddW_law_720 : decode code 720 = .ok (.iload 4, 2) := by decide +kernel
theorem ddW_law_722 : decode code 722 = .ok (.iconst 2, 1) := by decide +kernel
theorem ddW_law_723 : decode code 723 = .ok (.iadd, 1) := by decide +kernel
theorem ddW_law_724 : decode code 724 = .ok (.iaload, 1) := by decide +kernel
theorem ddW_law_725 : decode code 725 = .ok (.invokevirtual 81, 3) := by decide +kernel
theorem ddW_law_728 : decode code 728 = .ok (.aload_n 2, 1) := by decide +kernel
theorem ddW_law_729 : decode code 729 = .ok (.aload_n 0, 1) := by decide +kernel
theorem ddW_law_730 : decode code 730 = .ok (.iload 4, 2) := by decide +kernel
theorem ddW_law_732 : decode code 732 = .ok (.iconst 1, 1) := by decide +kernel
theorem ddW_law_733 : decode code 733 = .ok (.iadd, 1) := by decide +kernel
theorem ddW_law_734 : decode code 734 = .ok (.iaload, 1) := by decide +kernel
theorem ddW_law_735 : decode code 735 = .ok (.aload_n 0, 1) := by decide +kernel
theorem ddW_law_736 : decode code 736 = .ok (.iload 4, 2) := by decide +kernel
theorem ddW_law_738 : decode code 738 = .ok (.iconst 2, 1) := by decide +kernel
theorem ddW_law_739 : decode code 739 = .ok (.iadd, 1) := by decide +kernel
theorem ddW_law_740 : decode code 740 = .ok (.iaload, 1) := by decide +kernel
theorem ddW_law_741 : decode code 741 = .ok (.invokevirtual 84, 3) := by decide +kernel
theorem ddW_law_744 : decode code 744 = .ok (.if_icmp .eq 707, 3) := by decide +kernel
theorem ddW_law_747 : decode code 747 = .ok (.iconst 0, 1) := by decide +kernel
theorem ddW_law_748 : decode code 748 = .ok (.ireturn, 1) := by decide +kernel
theorem ddW_law_749 : decode code 749 = .ok (.aload_n 1, 1) := by decide +kernel
theorem ddW_law_750 : decode code 750 = .ok (.aload_n 0, 1) := by decide +kernel
theorem ddW_law_751 : decode code 751 = .ok (.iload 4, 2) := by decide +kernel
theorem ddW_law_753 : decode code 753 = .ok (.iconst 1, 1) := by decide +kernel
theorem ddW_law_754 : decode code 754 = .ok (.iadd, 1) := by decide +kernel
theorem ddW_law_755 : decode code 755 = .ok (.iaload, 1) := by decide +kernel
theorem ddW_law_756 : decode code 756 = .ok (.invokevirtual 85, 3) := by decide +kernel
theorem ddW_law_759 : decode code 759 = .ok (.aload_n 2, 1) := by decide +kernel
theorem ddW_law_760 : decode code 760 = .ok (.aload_n 0, 1) := by decide +kernel
theorem ddW_law_761 : decode code 761 = .ok (.iload 4, 2) := by decide +kernel
theorem ddW_law_763 : decode code 763 = .ok (.iconst 1, 1) := by decide +kernel
theorem ddW_law_764 : decode code 764 = .ok (.iadd, 1) := by decide +kernel
theorem ddW_law_765 : decode code 765 = .ok (.iaload, 1) := by decide +kernel
theorem ddW_law_766 : decode code 766 = .ok (.invokevirtual 88, 3) := by decide +kernel
theorem ddW_law_769 : decode code 769 = .ok (.if_icmp .eq 682, 3) := by decide +kernel
theorem ddW_law_772 : decode code 772 = .ok (.iconst 0, 1) := by decide +kernel
theorem ddW_law_773 : decode code 773 = .ok (.ireturn, 1) := by decide +kernel
theorem ddW_law_774 : decode code 774 = .ok (.aload_n 1, 1) := by decide +kernel
theorem ddW_law_775 : decode code 775 = .ok (.aload_n 0, 1) := by decide +kernel
theorem ddW_law_776 : decode code 776 = .ok (.iload 4, 2) := by decide +kernel
theorem ddW_law_778 : decode code 778 = .ok (.iconst 1, 1) := by decide +kernel
theorem ddW_law_779 : decode code 779 = .ok (.iadd, 1) := by decide +kernel
theorem ddW_law_780 : decode code 780 = .ok (.iaload, 1) := by decide +kernel
theorem ddW_law_781 : decode code 781 = .ok (.invokevirtual 89, 3) := by decide +kernel
theorem ddW_law_784 : decode code 784 = .ok (.aload_n 2, 1) := by decide +kernel
theorem ddW_law_785 : decode code 785 = .ok (.aload_n 0, 1) := by decide +kernel
theorem ddW_law_786 : decode code 786 = .ok (.iload 4, 2) := by decide +kernel
theorem ddW_law_788 : decode code 788 = .ok (.iconst 1, 1) := by decide +kernel
theorem ddW_law_789 : decode code 789 = .ok (.iadd, 1) := by decide +kernel
theorem ddW_law_790 : decode code 790 = .ok (.iaload, 1) := by decide +kernel
theorem ddW_law_791 : decode code 791 = .ok (.invokevirtual 92, 3) := by decide +kernel
theorem ddW_law_794 : decode code 794 = .ok (.if_icmp .eq 657, 3) := by decide +kernel
theorem ddW_law_797 : decode code 797 = .ok (.iconst 0, 1) := by decide +kernel
theorem ddW_law_798 : decode code 798 = .ok (.ireturn, 1) := by decide +kernel
theorem ddW_law_799 : decode code 799 = .ok (.aload_n 1, 1) := by decide +kernel
theorem ddW_law_800 : decode code 800 = .ok (.aload_n 0, 1) := by decide +kernel
theorem ddW_law_801 : decode code 801 = .ok (.iload 4, 2) := by decide +kernel
theorem ddW_law_803 : decode code 803 = .ok (.iconst 1, 1) := by decide +kernel
theorem ddW_law_804 : decode code 804 = .ok (.iadd, 1) := by decide +kernel
theorem ddW_law_805 : decode code 805 = .ok (.iaload, 1) := by decide +kernel
theorem ddW_law_806 : decode code 806 = .ok (.invokevirtual 93, 3) := by decide +kernel
theorem ddW_law_809 : decode code 809 = .ok (.aload_n 2, 1) := by decide +kernel
theorem ddW_law_810 : decode code 810 = .ok (.aload_n 0, 1) := by decide +kernel
theorem ddW_law_811 : decode code 811 = .ok (.iload 4, 2) := by decide +kernel
theorem ddW_law_813 : decode code 813 = .ok (.iconst 1, 1) := by decide +kernel
theorem ddW_law_814 : decode code 814 = .ok (.iadd, 1) := by decide +kernel
theorem ddW_law_815 : decode code 815 = .ok (.iaload, 1) := by decide +kernel
theorem ddW_law_816 : decode code 816 = .ok (.invokevirtual 96, 3) := by decide +kernel
theorem ddW_law_819 : decode code 819 = .ok (.if_icmp .eq 632, 3) := by decide +kernel
theorem ddW_law_822 : decode code 822 = .ok (.iconst 0, 1) := by decide +kernel
theorem ddW_law_823 : decode code 823 = .ok (.ireturn, 1) := by decide +kernel
theorem ddW_law_824 : decode code 824 = .ok (.aload_n 1, 1) := by decide +kernel
theorem ddW_law_825 : decode code 825 = .ok (.aload_n 0, 1) := by decide +kernel
theorem ddW_law_826 : decode code 826 = .ok (.iload 4, 2) := by decide +kernel
theorem ddW_law_828 : decode code 828 = .ok (.iconst 1, 1) := by decide +kernel
theorem ddW_law_829 : decode code 829 = .ok (.iadd, 1) := by decide +kernel
theorem ddW_law_830 : decode code 830 = .ok (.iaload, 1) := by decide +kernel
theorem ddW_law_831 : decode code 831 = .ok (.invokevirtual 97, 3) := by decide +kernel
theorem ddW_law_834 : decode code 834 = .ok (.aload_n 2, 1) := by decide +kernel
theorem ddW_law_835 : decode code 835 = .ok (.aload_n 0, 1) := by decide +kernel
theorem ddW_law_836 : decode code 836 = .ok (.iload 4, 2) := by decide +kernel
theorem ddW_law_838 : decode code 838 = .ok (.iconst 1, 1) := by decide +kernel
theorem ddW_law_839 : decode code 839 = .ok (.iadd, 1) := by decide +kernel
theorem ddW_law_840 : decode code 840 = .ok (.iaload, 1) := by decide +kernel
theorem ddW_law_841 : decode code 841 = .ok (.invokevirtual 100, 3) := by decide +kernel
theorem ddW_law_844 : decode code 844 = .ok (.if_icmp .eq 607, 3) := by decide +kernel
theorem ddW_law_847 : decode code 847 = .ok (.iconst 0, 1) := by decide +kernel
theorem ddW_law_848 : decode code 848 = .ok (.ireturn, 1) := by decide +kernel
theorem ddW_law_849 : decode code 849 = .ok (.aload_n 1, 1) := by decide +kernel
theorem ddW_law_850 : decode code 850 = .ok (.aload_n 0, 1) := by decide +kernel
theorem ddW_law_851 : decode code 851 = .ok (.iload 4, 2) := by decide +kernel
theorem ddW_law_853 : decode code 853 = .ok (.iconst 1, 1) := by decide +kernel
theorem ddW_law_854 : decode code 854 = .ok (.iadd, 1) := by decide +kernel
theorem ddW_law_855 : decode code 855 = .ok (.iaload, 1) := by decide +kernel
theorem ddW_law_856 : decode code 856 = .ok (.aload_n 0, 1) := by decide +kernel
theorem ddW_law_857 : decode code 857 = .ok (.iload 4, 2) := by decide +kernel
theorem ddW_law_859 : decode code 859 = .ok (.iconst 2, 1) := by decide +kernel
theorem ddW_law_860 : decode code 860 = .ok (.iadd, 1) := by decide +kernel
theorem ddW_law_861 : decode code 861 = .ok (.iaload, 1) := by decide +kernel
theorem ddW_law_862 : decode code 862 = .ok (.i2l, 1) := by decide +kernel
theorem ddW_law_863 : decode code 863 = .ok (.bipush 32, 2) := by decide +kernel
theorem ddW_law_865 : decode code 865 = .ok (.lshl, 1) := by decide +kernel
theorem ddW_law_866 : decode code 866 = .ok (.aload_n 0, 1) := by decide +kernel
theorem ddW_law_867 : decode code 867 = .ok (.iload 4, 2) := by decide +kernel
theorem ddW_law_869 : decode code 869 = .ok (.iconst 3, 1) := by decide +kernel
theorem ddW_law_870 : decode code 870 = .ok (.iadd, 1) := by decide +kernel
theorem ddW_law_871 : decode code 871 = .ok (.iaload, 1) := by decide +kernel
theorem ddW_law_872 : decode code 872 = .ok (.i2l, 1) := by decide +kernel
theorem ddW_law_873 : decode code 873 = .ok (.ldc2_w 101, 3) := by decide +kernel
theorem ddW_law_876 : decode code 876 = .ok (.land, 1) := by decide +kernel
theorem ddW_law_877 : decode code 877 = .ok (.lor, 1) := by decide +kernel
theorem ddW_law_878 : decode code 878 = .ok (.invokevirtual 103, 3) := by decide +kernel
theorem ddW_law_881 : decode code 881 = .ok (.aload_n 2, 1) := by decide +kernel
theorem ddW_law_882 : decode code 882 = .ok (.aload_n 0, 1) := by decide +kernel
theorem ddW_law_883 : decode code 883 = .ok (.iload 4, 2) := by decide +kernel
theorem ddW_law_885 : decode code 885 = .ok (.iconst 1, 1) := by decide +kernel
theorem ddW_law_886 : decode code 886 = .ok (.iadd, 1) := by decide +kernel
theorem ddW_law_887 : decode code 887 = .ok (.iaload, 1) := by decide +kernel
theorem ddW_law_888 : decode code 888 = .ok (.aload_n 0, 1) := by decide +kernel
theorem ddW_law_889 : decode code 889 = .ok (.iload 4, 2) := by decide +kernel
theorem ddW_law_891 : decode code 891 = .ok (.iconst 2, 1) := by decide +kernel
theorem ddW_law_892 : decode code 892 = .ok (.iadd, 1) := by decide +kernel
theorem ddW_law_893 : decode code 893 = .ok (.iaload, 1) := by decide +kernel
theorem ddW_law_894 : decode code 894 = .ok (.i2l, 1) := by decide +kernel
theorem ddW_law_895 : decode code 895 = .ok (.bipush 32, 2) := by decide +kernel
theorem ddW_law_897 : decode code 897 = .ok (.lshl, 1) := by decide +kernel
theorem ddW_law_898 : decode code 898 = .ok (.aload_n 0, 1) := by decide +kernel
theorem ddW_law_899 : decode code 899 = .ok (.iload 4, 2) := by decide +kernel
theorem ddW_law_901 : decode code 901 = .ok (.iconst 3, 1) := by decide +kernel
theorem ddW_law_902 : decode code 902 = .ok (.iadd, 1) := by decide +kernel
theorem ddW_law_903 : decode code 903 = .ok (.iaload, 1) := by decide +kernel
theorem ddW_law_904 : decode code 904 = .ok (.i2l, 1) := by decide +kernel
theorem ddW_law_905 : decode code 905 = .ok (.ldc2_w 101, 3) := by decide +kernel
theorem ddW_law_908 : decode code 908 = .ok (.land, 1) := by decide +kernel
theorem ddW_law_909 : decode code 909 = .ok (.lor, 1) := by decide +kernel
theorem ddW_law_910 : decode code 910 = .ok (.invokevirtual 107, 3) := by decide +kernel
theorem ddW_law_913 : decode code 913 = .ok (.if_icmp .eq 538, 3) := by decide +kernel
theorem ddW_law_916 : decode code 916 = .ok (.iconst 0, 1) := by decide +kernel
theorem ddW_law_917 : decode code 917 = .ok (.ireturn, 1) := by decide +kernel
theorem ddW_law_918 : decode code 918 = .ok (.aload_n 1, 1) := by decide +kernel
theorem ddW_law_919 : decode code 919 = .ok (.aload_n 0, 1) := by decide +kernel
theorem ddW_law_920 : decode code 920 = .ok (.iload 4, 2) := by decide +kernel
theorem ddW_law_922 : decode code 922 = .ok (.iconst 1, 1) := by decide +kernel
theorem ddW_law_923 : decode code 923 = .ok (.iadd, 1) := by decide +kernel
theorem ddW_law_924 : decode code 924 = .ok (.iaload, 1) := by decide +kernel
theorem ddW_law_925 : decode code 925 = .ok (.invokevirtual 108, 3) := by decide +kernel
theorem ddW_law_928 : decode code 928 = .ok (.aload_n 2, 1) := by decide +kernel
theorem ddW_law_929 : decode code 929 = .ok (.aload_n 0, 1) := by decide +kernel
theorem ddW_law_930 : decode code 930 = .ok (.iload 4, 2) := by decide +kernel
theorem ddW_law_932 : decode code 932 = .ok (.iconst 1, 1) := by decide +kernel
theorem ddW_law_933 : decode code 933 = .ok (.iadd, 1) := by decide +kernel
theorem ddW_law_934 : decode code 934 = .ok (.iaload, 1) := by decide +kernel
theorem ddW_law_935 : decode code 935 = .ok (.invokevirtual 111, 3) := by decide +kernel
theorem ddW_law_938 : decode code 938 = .ok (.if_icmp .eq 513, 3) := by decide +kernel
theorem ddW_law_941 : decode code 941 = .ok (.iconst 0, 1) := by decide +kernel
theorem ddW_law_942 : decode code 942 = .ok (.ireturn, 1) := by decide +kernel
theorem ddW_law_943 : decode code 943 = .ok (.aload_n 1, 1) := by decide +kernel
theorem ddW_law_944 : decode code 944 = .ok (.invokevirtual 112, 3) := by decide +kernel
theorem ddW_law_947 : decode code 947 = .ok (.aload_n 2, 1) := by decide +kernel
theorem ddW_law_948 : decode code 948 = .ok (.invokevirtual 115, 3) := by decide +kernel
theorem ddW_law_951 : decode code 951 = .ok (.if_icmp .eq 500, 3) := by decide +kernel
theorem ddW_law_954 : decode code 954 = .ok (.iconst 0, 1) := by decide +kernel
theorem ddW_law_955 : decode code 955 = .ok (.ireturn, 1) := by decide +kernel
theorem ddW_law_956 : decode code 956 = .ok (.aload_n 1, 1) := by decide +kernel
theorem ddW_law_957 : decode code 957 = .ok (.aload_n 0, 1) := by decide +kernel
theorem ddW_law_958 : decode code 958 = .ok (.iload 4, 2) := by decide +kernel
theorem ddW_law_960 : decode code 960 = .ok (.iconst 1, 1) := by decide +kernel
theorem ddW_law_961 : decode code 961 = .ok (.iadd, 1) := by decide +kernel
theorem ddW_law_962 : decode code 962 = .ok (.iaload, 1) := by decide +kernel
theorem ddW_law_963 : decode code 963 = .ok (.aload_n 0, 1) := by decide +kernel
theorem ddW_law_964 : decode code 964 = .ok (.iload 4, 2) := by decide +kernel
theorem ddW_law_966 : decode code 966 = .ok (.iconst 2, 1) := by decide +kernel
theorem ddW_law_967 : decode code 967 = .ok (.iadd, 1) := by decide +kernel
theorem ddW_law_968 : decode code 968 = .ok (.iaload, 1) := by decide +kernel
theorem ddW_law_969 : decode code 969 = .ok (.invokevirtual 116, 3) := by decide +kernel
theorem ddW_law_972 : decode code 972 = .ok (.aload_n 2, 1) := by decide +kernel
theorem ddW_law_973 : decode code 973 = .ok (.aload_n 0, 1) := by decide +kernel
theorem ddW_law_974 : decode code 974 = .ok (.iload 4, 2) := by decide +kernel
theorem ddW_law_976 : decode code 976 = .ok (.iconst 1, 1) := by decide +kernel
theorem ddW_law_977 : decode code 977 = .ok (.iadd, 1) := by decide +kernel
theorem ddW_law_978 : decode code 978 = .ok (.iaload, 1) := by decide +kernel
theorem ddW_law_979 : decode code 979 = .ok (.aload_n 0, 1) := by decide +kernel
theorem ddW_law_980 : decode code 980 = .ok (.iload 4, 2) := by decide +kernel
theorem ddW_law_982 : decode code 982 = .ok (.iconst 2, 1) := by decide +kernel
theorem ddW_law_983 : decode code 983 = .ok (.iadd, 1) := by decide +kernel
theorem ddW_law_984 : decode code 984 = .ok (.iaload, 1) := by decide +kernel
theorem ddW_law_985 : decode code 985 = .ok (.invokevirtual 119, 3) := by decide +kernel
theorem ddW_law_988 : decode code 988 = .ok (.if_icmp .eq 463, 3) := by decide +kernel
theorem ddW_law_991 : decode code 991 = .ok (.iconst 0, 1) := by decide +kernel
theorem ddW_law_992 : decode code 992 = .ok (.ireturn, 1) := by decide +kernel
theorem ddW_law_993 : decode code 993 = .ok (.aload_n 1, 1) := by decide +kernel
theorem ddW_law_994 : decode code 994 = .ok (.aload_n 0, 1) := by decide +kernel
theorem ddW_law_995 : decode code 995 = .ok (.iload 4, 2) := by decide +kernel
theorem ddW_law_997 : decode code 997 = .ok (.iconst 1, 1) := by decide +kernel
theorem ddW_law_998 : decode code 998 = .ok (.iadd, 1) := by decide +kernel
theorem ddW_law_999 : decode code 999 = .ok (.iaload, 1) := by decide +kernel
theorem ddW_law_1000 : decode code 1000 = .ok (.aload_n 0, 1) := by decide +kernel
theorem ddW_law_1001 : decode code 1001 = .ok (.iload 4, 2) := by decide +kernel
theorem ddW_law_1003 : decode code 1003 = .ok (.iconst 2, 1) := by decide +kernel
theorem ddW_law_1004 : decode code 1004 = .ok (.iadd, 1) := by decide +kernel
theorem ddW_law_1005 : decode code 1005 = .ok (.iaload, 1) := by decide +kernel
theorem ddW_law_1006 : decode code 1006 = .ok (.aload_n 0, 1) := by decide +kernel
theorem ddW_law_1007 : decode code 1007 = .ok (.iload 4, 2) := by decide +kernel
theorem ddW_law_1009 : decode code 1009 = .ok (.iconst 3, 1) := by decide +kernel
theorem ddW_law_1010 : decode code 1010 = .ok (.iadd, 1) := by decide +kernel
theorem ddW_law_1011 : decode code 1011 = .ok (.iaload, 1) := by decide +kernel
theorem ddW_law_1012 : decode code 1012 = .ok (.invokevirtual 120, 3) := by decide +kernel
theorem ddW_law_1015 : decode code 1015 = .ok (.aload_n 2, 1) := by decide +kernel
theorem ddW_law_1016 : decode code 1016 = .ok (.aload_n 0, 1) := by decide +kernel
theorem ddW_law_1017 : decode code 1017 = .ok (.iload 4, 2) := by decide +kernel
theorem ddW_law_1019 : decode code 1019 = .ok (.iconst 1, 1) := by decide +kernel
theorem ddW_law_1020 : decode code 1020 = .ok (.iadd, 1) := by decide +kernel
theorem ddW_law_1021 : decode code 1021 = .ok (.iaload, 1) := by decide +kernel
theorem ddW_law_1022 : decode code 1022 = .ok (.aload_n 0, 1) := by decide +kernel
theorem ddW_law_1023 : decode code 1023 = .ok (.iload 4, 2) := by decide +kernel
theorem ddW_law_1025 : decode code 1025 = .ok (.iconst 2, 1) := by decide +kernel
theorem ddW_law_1026 : decode code 1026 = .ok (.iadd, 1) := by decide +kernel
theorem ddW_law_1027 : decode code 1027 = .ok (.iaload, 1) := by decide +kernel
theorem ddW_law_1028 : decode code 1028 = .ok (.aload_n 0, 1) := by decide +kernel
theorem ddW_law_1029 : decode code 1029 = .ok (.iload 4, 2) := by decide +kernel
theorem ddW_law_1031 : decode code 1031 = .ok (.iconst 3, 1) := by decide +kernel
theorem ddW_law_1032 : decode code 1032 = .ok (.iadd, 1) := by decide +kernel
theorem ddW_law_1033 : decode code 1033 = .ok (.iaload, 1) := by decide +kernel
theorem ddW_law_1034 : decode code 1034 = .ok (.invokevirtual 123, 3) := by decide +kernel
theorem ddW_law_1037 : decode code 1037 = .ok (.if_icmp .eq 414, 3) := by decide +kernel
theorem ddW_law_1040 : decode code 1040 = .ok (.iconst 0, 1) := by decide +kernel
theorem ddW_law_1041 : decode code 1041 = .ok (.ireturn, 1) := by decide +kernel
theorem ddW_law_1042 : decode code 1042 = .ok (.aload_n 1, 1) := by decide +kernel
theorem ddW_law_1043 : decode code 1043 = .ok (.aload_n 0, 1) := by decide +kernel
theorem ddW_law_1044 : decode code 1044 = .ok (.iload 4, 2) := by decide +kernel
theorem ddW_law_1046 : decode code 1046 = .ok (.iconst 1, 1) := by decide +kernel
theorem ddW_law_1047 : decode code 1047 = .ok (.iadd, 1) := by decide +kernel
theorem ddW_law_1048 : decode code 1048 = .ok (.iaload, 1) := by decide +kernel
theorem ddW_law_1049 : decode code 1049 = .ok (.invokevirtual 124, 3) := by decide +kernel
theorem ddW_law_1052 : decode code 1052 = .ok (.aload_n 2, 1) := by decide +kernel
theorem ddW_law_1053 : decode code 1053 = .ok (.aload_n 0, 1) := by decide +kernel
theorem ddW_law_1054 : decode code 1054 = .ok (.iload 4, 2) := by decide +kernel
theorem ddW_law_1056 : decode code 1056 = .ok (.iconst 1, 1) := by decide +kernel
theorem ddW_law_1057 : decode code 1057 = .ok (.iadd, 1) := by decide +kernel
theorem ddW_law_1058 : decode code 1058 = .ok (.iaload, 1) := by decide +kernel
theorem ddW_law_1059 : decode code 1059 = .ok (.invokevirtual 127, 3) := by decide +kernel
theorem ddW_law_1062 : decode code 1062 = .ok (.if_icmp .eq 389, 3) := by decide +kernel
theorem ddW_law_1065 : decode code 1065 = .ok (.iconst 0, 1) := by decide +kernel
theorem ddW_law_1066 : decode code 1066 = .ok (.ireturn, 1) := by decide +kernel
theorem ddW_law_1067 : decode code 1067 = .ok (.aload_n 1, 1) := by decide +kernel
theorem ddW_law_1068 : decode code 1068 = .ok (.aload_n 0, 1) := by decide +kernel
theorem ddW_law_1069 : decode code 1069 = .ok (.iload 4, 2) := by decide +kernel
theorem ddW_law_1071 : decode code 1071 = .ok (.iconst 1, 1) := by decide +kernel
theorem ddW_law_1072 : decode code 1072 = .ok (.iadd, 1) := by decide +kernel
theorem ddW_law_1073 : decode code 1073 = .ok (.iaload, 1) := by decide +kernel
theorem ddW_law_1074 : decode code 1074 = .ok (.aload_n 0, 1) := by decide +kernel
theorem ddW_law_1075 : decode code 1075 = .ok (.iload 4, 2) := by decide +kernel
theorem ddW_law_1077 : decode code 1077 = .ok (.iconst 2, 1) := by decide +kernel
theorem ddW_law_1078 : decode code 1078 = .ok (.iadd, 1) := by decide +kernel
theorem ddW_law_1079 : decode code 1079 = .ok (.iaload, 1) := by decide +kernel
theorem ddW_law_1080 : decode code 1080 = .ok (.invokevirtual 128, 3) := by decide +kernel
theorem ddW_law_1083 : decode code 1083 = .ok (.aload_n 2, 1) := by decide +kernel
theorem ddW_law_1084 : decode code 1084 = .ok (.aload_n 0, 1) := by decide +kernel
theorem ddW_law_1085 : decode code 1085 = .ok (.iload 4, 2) := by decide +kernel
theorem ddW_law_1087 : decode code 1087 = .ok (.iconst 1, 1) := by decide +kernel
theorem ddW_law_1088 : decode code 1088 = .ok (.iadd, 1) := by decide +kernel
theorem ddW_law_1089 : decode code 1089 = .ok (.iaload, 1) := by decide +kernel
theorem ddW_law_1090 : decode code 1090 = .ok (.aload_n 0, 1) := by decide +kernel
theorem ddW_law_1091 : decode code 1091 = .ok (.iload 4, 2) := by decide +kernel
theorem ddW_law_1093 : decode code 1093 = .ok (.iconst 2, 1) := by decide +kernel
theorem ddW_law_1094 : decode code 1094 = .ok (.iadd, 1) := by decide +kernel
theorem ddW_law_1095 : decode code 1095 = .ok (.iaload, 1) := by decide +kernel
theorem ddW_law_1096 : decode code 1096 = .ok (.invokevirtual 131, 3) := by decide +kernel
theorem ddW_law_1099 : decode code 1099 = .ok (.if_icmp .eq 352, 3) := by decide +kernel
theorem ddW_law_1102 : decode code 1102 = .ok (.iconst 0, 1) := by decide +kernel
theorem ddW_law_1103 : decode code 1103 = .ok (.ireturn, 1) := by decide +kernel
theorem ddW_law_1104 : decode code 1104 = .ok (.aload_n 1, 1) := by decide +kernel
theorem ddW_law_1105 : decode code 1105 = .ok (.aload_n 0, 1) := by decide +kernel
theorem ddW_law_1106 : decode code 1106 = .ok (.iload 4, 2) := by decide +kernel
theorem ddW_law_1108 : decode code 1108 = .ok (.iconst 1, 1) := by decide +kernel
theorem ddW_law_1109 : decode code 1109 = .ok (.iadd, 1) := by decide +kernel
theorem ddW_law_1110 : decode code 1110 = .ok (.iaload, 1) := by decide +kernel
theorem ddW_law_1111 : decode code 1111 = .ok (.aload_n 0, 1) := by decide +kernel
theorem ddW_law_1112 : decode code 1112 = .ok (.iload 4, 2) := by decide +kernel
theorem ddW_law_1114 : decode code 1114 = .ok (.iconst 2, 1) := by decide +kernel
theorem ddW_law_1115 : decode code 1115 = .ok (.iadd, 1) := by decide +kernel
theorem ddW_law_1116 : decode code 1116 = .ok (.iaload, 1) := by decide +kernel
theorem ddW_law_1117 : decode code 1117 = .ok (.invokevirtual 132, 3) := by decide +kernel
theorem ddW_law_1120 : decode code 1120 = .ok (.aload_n 2, 1) := by decide +kernel
theorem ddW_law_1121 : decode code 1121 = .ok (.aload_n 0, 1) := by decide +kernel
theorem ddW_law_1122 : decode code 1122 = .ok (.iload 4, 2) := by decide +kernel
theorem ddW_law_1124 : decode code 1124 = .ok (.iconst 1, 1) := by decide +kernel
theorem ddW_law_1125 : decode code 1125 = .ok (.iadd, 1) := by decide +kernel
theorem ddW_law_1126 : decode code 1126 = .ok (.iaload, 1) := by decide +kernel
theorem ddW_law_1127 : decode code 1127 = .ok (.aload_n 0, 1) := by decide +kernel
theorem ddW_law_1128 : decode code 1128 = .ok (.iload 4, 2) := by decide +kernel
theorem ddW_law_1130 : decode code 1130 = .ok (.iconst 2, 1) := by decide +kernel
theorem ddW_law_1131 : decode code 1131 = .ok (.iadd, 1) := by decide +kernel
theorem ddW_law_1132 : decode code 1132 = .ok (.iaload, 1) := by decide +kernel
theorem ddW_law_1133 : decode code 1133 = .ok (.invokevirtual 135, 3) := by decide +kernel
theorem ddW_law_1136 : decode code 1136 = .ok (.if_icmp .eq 315, 3) := by decide +kernel
theorem ddW_law_1139 : decode code 1139 = .ok (.iconst 0, 1) := by decide +kernel
theorem ddW_law_1140 : decode code 1140 = .ok (.ireturn, 1) := by decide +kernel
theorem ddW_law_1141 : decode code 1141 = .ok (.aload_n 1, 1) := by decide +kernel
theorem ddW_law_1142 : decode code 1142 = .ok (.aload_n 0, 1) := by decide +kernel
theorem ddW_law_1143 : decode code 1143 = .ok (.iload 4, 2) := by decide +kernel
theorem ddW_law_1145 : decode code 1145 = .ok (.iconst 1, 1) := by decide +kernel
theorem ddW_law_1146 : decode code 1146 = .ok (.iadd, 1) := by decide +kernel
theorem ddW_law_1147 : decode code 1147 = .ok (.iaload, 1) := by decide +kernel
theorem ddW_law_1148 : decode code 1148 = .ok (.aload_n 0, 1) := by decide +kernel
theorem ddW_law_1149 : decode code 1149 = .ok (.iload 4, 2) := by decide +kernel
theorem ddW_law_1151 : decode code 1151 = .ok (.iconst 2, 1) := by decide +kernel
theorem ddW_law_1152 : decode code 1152 = .ok (.iadd, 1) := by decide +kernel
theorem ddW_law_1153 : decode code 1153 = .ok (.iaload, 1) := by decide +kernel
theorem ddW_law_1154 : decode code 1154 = .ok (.invokevirtual 136, 3) := by decide +kernel
theorem ddW_law_1157 : decode code 1157 = .ok (.aload_n 2, 1) := by decide +kernel
theorem ddW_law_1158 : decode code 1158 = .ok (.aload_n 0, 1) := by decide +kernel
theorem ddW_law_1159 : decode code 1159 = .ok (.iload 4, 2) := by decide +kernel
theorem ddW_law_1161 : decode code 1161 = .ok (.iconst 1, 1) := by decide +kernel
theorem ddW_law_1162 : decode code 1162 = .ok (.iadd, 1) := by decide +kernel
theorem ddW_law_1163 : decode code 1163 = .ok (.iaload, 1) := by decide +kernel
theorem ddW_law_1164 : decode code 1164 = .ok (.aload_n 0, 1) := by decide +kernel
theorem ddW_law_1165 : decode code 1165 = .ok (.iload 4, 2) := by decide +kernel
theorem ddW_law_1167 : decode code 1167 = .ok (.iconst 2, 1) := by decide +kernel
theorem ddW_law_1168 : decode code 1168 = .ok (.iadd, 1) := by decide +kernel
theorem ddW_law_1169 : decode code 1169 = .ok (.iaload, 1) := by decide +kernel
theorem ddW_law_1170 : decode code 1170 = .ok (.invokevirtual 139, 3) := by decide +kernel
theorem ddW_law_1173 : decode code 1173 = .ok (.if_icmp .eq 278, 3) := by decide +kernel
theorem ddW_law_1176 : decode code 1176 = .ok (.iconst 0, 1) := by decide +kernel
theorem ddW_law_1177 : decode code 1177 = .ok (.ireturn, 1) := by decide +kernel
theorem ddW_law_1178 : decode code 1178 = .ok (.aload_n 1, 1) := by decide +kernel
theorem ddW_law_1179 : decode code 1179 = .ok (.aload_n 0, 1) := by decide +kernel
theorem ddW_law_1180 : decode code 1180 = .ok (.iload 4, 2) := by decide +kernel
theorem ddW_law_1182 : decode code 1182 = .ok (.iconst 1, 1) := by decide +kernel
theorem ddW_law_1183 : decode code 1183 = .ok (.iadd, 1) := by decide +kernel
theorem ddW_law_1184 : decode code 1184 = .ok (.iaload, 1) := by decide +kernel
theorem ddW_law_1185 : decode code 1185 = .ok (.aload_n 0, 1) := by decide +kernel
theorem ddW_law_1186 : decode code 1186 = .ok (.iload 4, 2) := by decide +kernel
theorem ddW_law_1188 : decode code 1188 = .ok (.iconst 2, 1) := by decide +kernel
theorem ddW_law_1189 : decode code 1189 = .ok (.iadd, 1) := by decide +kernel
theorem ddW_law_1190 : decode code 1190 = .ok (.iaload, 1) := by decide +kernel
theorem ddW_law_1191 : decode code 1191 = .ok (.aload_n 0, 1) := by decide +kernel
theorem ddW_law_1192 : decode code 1192 = .ok (.iload 4, 2) := by decide +kernel
theorem ddW_law_1194 : decode code 1194 = .ok (.iconst 3, 1) := by decide +kernel
theorem ddW_law_1195 : decode code 1195 = .ok (.iadd, 1) := by decide +kernel
theorem ddW_law_1196 : decode code 1196 = .ok (.iaload, 1) := by decide +kernel
theorem ddW_law_1197 : decode code 1197 = .ok (.invokevirtual 140, 3) := by decide +kernel
theorem ddW_law_1200 : decode code 1200 = .ok (.aload_n 2, 1) := by decide +kernel
theorem ddW_law_1201 : decode code 1201 = .ok (.aload_n 0, 1) := by decide +kernel
theorem ddW_law_1202 : decode code 1202 = .ok (.iload 4, 2) := by decide +kernel
theorem ddW_law_1204 : decode code 1204 = .ok (.iconst 1, 1) := by decide +kernel
theorem ddW_law_1205 : decode code 1205 = .ok (.iadd, 1) := by decide +kernel
theorem ddW_law_1206 : decode code 1206 = .ok (.iaload, 1) := by decide +kernel
theorem ddW_law_1207 : decode code 1207 = .ok (.aload_n 0, 1) := by decide +kernel
theorem ddW_law_1208 : decode code 1208 = .ok (.iload 4, 2) := by decide +kernel
theorem ddW_law_1210 : decode code 1210 = .ok (.iconst 2, 1) := by decide +kernel
theorem ddW_law_1211 : decode code 1211 = .ok (.iadd, 1) := by decide +kernel
theorem ddW_law_1212 : decode code 1212 = .ok (.iaload, 1) := by decide +kernel
theorem ddW_law_1213 : decode code 1213 = .ok (.aload_n 0, 1) := by decide +kernel
theorem ddW_law_1214 : decode code 1214 = .ok (.iload 4, 2) := by decide +kernel
theorem ddW_law_1216 : decode code 1216 = .ok (.iconst 3, 1) := by decide +kernel
theorem ddW_law_1217 : decode code 1217 = .ok (.iadd, 1) := by decide +kernel
theorem ddW_law_1218 : decode code 1218 = .ok (.iaload, 1) := by decide +kernel
theorem ddW_law_1219 : decode code 1219 = .ok (.invokevirtual 143, 3) := by decide +kernel
theorem ddW_law_1222 : decode code 1222 = .ok (.if_icmp .eq 229, 3) := by decide +kernel
theorem ddW_law_1225 : decode code 1225 = .ok (.iconst 0, 1) := by decide +kernel
theorem ddW_law_1226 : decode code 1226 = .ok (.ireturn, 1) := by decide +kernel
theorem ddW_law_1227 : decode code 1227 = .ok (.aload_n 1, 1) := by decide +kernel
theorem ddW_law_1228 : decode code 1228 = .ok (.aload_n 0, 1) := by decide +kernel
theorem ddW_law_1229 : decode code 1229 = .ok (.iload 4, 2) := by decide +kernel
theorem ddW_law_1231 : decode code 1231 = .ok (.iconst 1, 1) := by decide +kernel
theorem ddW_law_1232 : decode code 1232 = .ok (.iadd, 1) := by decide +kernel
theorem ddW_law_1233 : decode code 1233 = .ok (.iaload, 1) := by decide +kernel
theorem ddW_law_1234 : decode code 1234 = .ok (.invokevirtual 144, 3) := by decide +kernel
theorem ddW_law_1237 : decode code 1237 = .ok (.aload_n 2, 1) := by decide +kernel
theorem ddW_law_1238 : decode code 1238 = .ok (.aload_n 0, 1) := by decide +kernel
theorem ddW_law_1239 : decode code 1239 = .ok (.iload 4, 2) := by decide +kernel
theorem ddW_law_1241 : decode code 1241 = .ok (.iconst 1, 1) := by decide +kernel
theorem ddW_law_1242 : decode code 1242 = .ok (.iadd, 1) := by decide +kernel
theorem ddW_law_1243 : decode code 1243 = .ok (.iaload, 1) := by decide +kernel
theorem ddW_law_1244 : decode code 1244 = .ok (.invokevirtual 147, 3) := by decide +kernel
theorem ddW_law_1247 : decode code 1247 = .ok (.if_icmp .eq 204, 3) := by decide +kernel
theorem ddW_law_1250 : decode code 1250 = .ok (.iconst 0, 1) := by decide +kernel
theorem ddW_law_1251 : decode code 1251 = .ok (.ireturn, 1) := by decide +kernel
theorem ddW_law_1252 : decode code 1252 = .ok (.aload_n 1, 1) := by decide +kernel
theorem ddW_law_1253 : decode code 1253 = .ok (.aload_n 0, 1) := by decide +kernel
theorem ddW_law_1254 : decode code 1254 = .ok (.iload 4, 2) := by decide +kernel
theorem ddW_law_1256 : decode code 1256 = .ok (.iconst 1, 1) := by decide +kernel
theorem ddW_law_1257 : decode code 1257 = .ok (.iadd, 1) := by decide +kernel
theorem ddW_law_1258 : decode code 1258 = .ok (.iaload, 1) := by decide +kernel
theorem ddW_law_1259 : decode code 1259 = .ok (.aload_n 0, 1) := by decide +kernel
theorem ddW_law_1260 : decode code 1260 = .ok (.iload 4, 2) := by decide +kernel
theorem ddW_law_1262 : decode code 1262 = .ok (.iconst 2, 1) := by decide +kernel
theorem ddW_law_1263 : decode code 1263 = .ok (.iadd, 1) := by decide +kernel
theorem ddW_law_1264 : decode code 1264 = .ok (.iaload, 1) := by decide +kernel
theorem ddW_law_1265 : decode code 1265 = .ok (.invokevirtual 148, 3) := by decide +kernel
theorem ddW_law_1268 : decode code 1268 = .ok (.aload_n 2, 1) := by decide +kernel
theorem ddW_law_1269 : decode code 1269 = .ok (.aload_n 0, 1) := by decide +kernel
theorem ddW_law_1270 : decode code 1270 = .ok (.iload 4, 2) := by decide +kernel
theorem ddW_law_1272 : decode code 1272 = .ok (.iconst 1, 1) := by decide +kernel
theorem ddW_law_1273 : decode code 1273 = .ok (.iadd, 1) := by decide +kernel
theorem ddW_law_1274 : decode code 1274 = .ok (.iaload, 1) := by decide +kernel
theorem ddW_law_1275 : decode code 1275 = .ok (.aload_n 0, 1) := by decide +kernel
theorem ddW_law_1276 : decode code 1276 = .ok (.iload 4, 2) := by decide +kernel
theorem ddW_law_1278 : decode code 1278 = .ok (.iconst 2, 1) := by decide +kernel
theorem ddW_law_1279 : decode code 1279 = .ok (.iadd, 1) := by decide +kernel
theorem ddW_law_1280 : decode code 1280 = .ok (.iaload, 1) := by decide +kernel
theorem ddW_law_1281 : decode code 1281 = .ok (.invokevirtual 151, 3) := by decide +kernel
theorem ddW_law_1284 : decode code 1284 = .ok (.if_icmp .eq 167, 3) := by decide +kernel
theorem ddW_law_1287 : decode code 1287 = .ok (.iconst 0, 1) := by decide +kernel
theorem ddW_law_1288 : decode code 1288 = .ok (.ireturn, 1) := by decide +kernel
theorem ddW_law_1289 : decode code 1289 = .ok (.aload_n 1, 1) := by decide +kernel
theorem ddW_law_1290 : decode code 1290 = .ok (.aload_n 0, 1) := by decide +kernel
theorem ddW_law_1291 : decode code 1291 = .ok (.iload 4, 2) := by decide +kernel
theorem ddW_law_1293 : decode code 1293 = .ok (.iconst 1, 1) := by decide +kernel
theorem ddW_law_1294 : decode code 1294 = .ok (.iadd, 1) := by decide +kernel
theorem ddW_law_1295 : decode code 1295 = .ok (.iaload, 1) := by decide +kernel
theorem ddW_law_1296 : decode code 1296 = .ok (.aload_n 0, 1) := by decide +kernel
theorem ddW_law_1297 : decode code 1297 = .ok (.iload 4, 2) := by decide +kernel
theorem ddW_law_1299 : decode code 1299 = .ok (.iconst 2, 1) := by decide +kernel
theorem ddW_law_1300 : decode code 1300 = .ok (.iadd, 1) := by decide +kernel
theorem ddW_law_1301 : decode code 1301 = .ok (.iaload, 1) := by decide +kernel
theorem ddW_law_1302 : decode code 1302 = .ok (.aload_n 0, 1) := by decide +kernel
theorem ddW_law_1303 : decode code 1303 = .ok (.iload 4, 2) := by decide +kernel
theorem ddW_law_1305 : decode code 1305 = .ok (.iconst 3, 1) := by decide +kernel
theorem ddW_law_1306 : decode code 1306 = .ok (.iadd, 1) := by decide +kernel
theorem ddW_law_1307 : decode code 1307 = .ok (.iaload, 1) := by decide +kernel
theorem ddW_law_1308 : decode code 1308 = .ok (.invokevirtual 152, 3) := by decide +kernel
theorem ddW_law_1311 : decode code 1311 = .ok (.aload_n 2, 1) := by decide +kernel
theorem ddW_law_1312 : decode code 1312 = .ok (.aload_n 0, 1) := by decide +kernel
theorem ddW_law_1313 : decode code 1313 = .ok (.iload 4, 2) := by decide +kernel
theorem ddW_law_1315 : decode code 1315 = .ok (.iconst 1, 1) := by decide +kernel
theorem ddW_law_1316 : decode code 1316 = .ok (.iadd, 1) := by decide +kernel
theorem ddW_law_1317 : decode code 1317 = .ok (.iaload, 1) := by decide +kernel
theorem ddW_law_1318 : decode code 1318 = .ok (.aload_n 0, 1) := by decide +kernel
theorem ddW_law_1319 : decode code 1319 = .ok (.iload 4, 2) := by decide +kernel
theorem ddW_law_1321 : decode code 1321 = .ok (.iconst 2, 1) := by decide +kernel
theorem ddW_law_1322 : decode code 1322 = .ok (.iadd, 1) := by decide +kernel
theorem ddW_law_1323 : decode code 1323 = .ok (.iaload, 1) := by decide +kernel
theorem ddW_law_1324 : decode code 1324 = .ok (.aload_n 0, 1) := by decide +kernel
theorem ddW_law_1325 : decode code 1325 = .ok (.iload 4, 2) := by decide +kernel
theorem ddW_law_1327 : decode code 1327 = .ok (.iconst 3, 1) := by decide +kernel
theorem ddW_law_1328 : decode code 1328 = .ok (.iadd, 1) := by decide +kernel
theorem ddW_law_1329 : decode code 1329 = .ok (.iaload, 1) := by decide +kernel
theorem ddW_law_1330 : decode code 1330 = .ok (.invokevirtual 155, 3) := by decide +kernel
theorem ddW_law_1333 : decode code 1333 = .ok (.if_icmp .eq 118, 3) := by decide +kernel
theorem ddW_law_1336 : decode code 1336 = .ok (.iconst 0, 1) := by decide +kernel
theorem ddW_law_1337 : decode code 1337 = .ok (.ireturn, 1) := by decide +kernel
theorem ddW_law_1338 : decode code 1338 = .ok (.aload_n 1, 1) := by decide +kernel
theorem ddW_law_1339 : decode code 1339 = .ok (.aload_n 0, 1) := by decide +kernel
theorem ddW_law_1340 : decode code 1340 = .ok (.iload 4, 2) := by decide +kernel
theorem ddW_law_1342 : decode code 1342 = .ok (.iconst 1, 1) := by decide +kernel
theorem ddW_law_1343 : decode code 1343 = .ok (.iadd, 1) := by decide +kernel
theorem ddW_law_1344 : decode code 1344 = .ok (.iaload, 1) := by decide +kernel
theorem ddW_law_1345 : decode code 1345 = .ok (.aload_n 0, 1) := by decide +kernel
theorem ddW_law_1346 : decode code 1346 = .ok (.iload 4, 2) := by decide +kernel
theorem ddW_law_1348 : decode code 1348 = .ok (.iconst 2, 1) := by decide +kernel
theorem ddW_law_1349 : decode code 1349 = .ok (.iadd, 1) := by decide +kernel
theorem ddW_law_1350 : decode code 1350 = .ok (.iaload, 1) := by decide +kernel
theorem ddW_law_1351 : decode code 1351 = .ok (.invokevirtual 156, 3) := by decide +kernel
theorem ddW_law_1354 : decode code 1354 = .ok (.aload_n 2, 1) := by decide +kernel
theorem ddW_law_1355 : decode code 1355 = .ok (.aload_n 0, 1) := by decide +kernel
theorem ddW_law_1356 : decode code 1356 = .ok (.iload 4, 2) := by decide +kernel
theorem ddW_law_1358 : decode code 1358 = .ok (.iconst 1, 1) := by decide +kernel
theorem ddW_law_1359 : decode code 1359 = .ok (.iadd, 1) := by decide +kernel
theorem ddW_law_1360 : decode code 1360 = .ok (.iaload, 1) := by decide +kernel
theorem ddW_law_1361 : decode code 1361 = .ok (.aload_n 0, 1) := by decide +kernel
theorem ddW_law_1362 : decode code 1362 = .ok (.iload 4, 2) := by decide +kernel
theorem ddW_law_1364 : decode code 1364 = .ok (.iconst 2, 1) := by decide +kernel
theorem ddW_law_1365 : decode code 1365 = .ok (.iadd, 1) := by decide +kernel
theorem ddW_law_1366 : decode code 1366 = .ok (.iaload, 1) := by decide +kernel
theorem ddW_law_1367 : decode code 1367 = .ok (.invokevirtual 159, 3) := by decide +kernel
theorem ddW_law_1370 : decode code 1370 = .ok (.if_icmp .eq 81, 3) := by decide +kernel
theorem ddW_law_1373 : decode code 1373 = .ok (.iconst 0, 1) := by decide +kernel
theorem ddW_law_1374 : decode code 1374 = .ok (.ireturn, 1) := by decide +kernel
theorem ddW_law_1375 : decode code 1375 = .ok (.aload_n 1, 1) := by decide +kernel
theorem ddW_law_1376 : decode code 1376 = .ok (.aload_n 0, 1) := by decide +kernel
theorem ddW_law_1377 : decode code 1377 = .ok (.iload 4, 2) := by decide +kernel
theorem ddW_law_1379 : decode code 1379 = .ok (.iconst 1, 1) := by decide +kernel
theorem ddW_law_1380 : decode code 1380 = .ok (.iadd, 1) := by decide +kernel
theorem ddW_law_1381 : decode code 1381 = .ok (.iaload, 1) := by decide +kernel
theorem ddW_law_1382 : decode code 1382 = .ok (.invokevirtual 160, 3) := by decide +kernel
theorem ddW_law_1385 : decode code 1385 = .ok (.aload_n 2, 1) := by decide +kernel
theorem ddW_law_1386 : decode code 1386 = .ok (.aload_n 0, 1) := by decide +kernel
theorem ddW_law_1387 : decode code 1387 = .ok (.iload 4, 2) := by decide +kernel
theorem ddW_law_1389 : decode code 1389 = .ok (.iconst 1, 1) := by decide +kernel
theorem ddW_law_1390 : decode code 1390 = .ok (.iadd, 1) := by decide +kernel
theorem ddW_law_1391 : decode code 1391 = .ok (.iaload, 1) := by decide +kernel
theorem ddW_law_1392 : decode code 1392 = .ok (.invokevirtual 163, 3) := by decide +kernel
theorem ddW_law_1395 : decode code 1395 = .ok (.if_icmp .eq 56, 3) := by decide +kernel
theorem ddW_law_1398 : decode code 1398 = .ok (.iconst 0, 1) := by decide +kernel
theorem ddW_law_1399 : decode code 1399 = .ok (.ireturn, 1) := by decide +kernel
theorem ddW_law_1400 : decode code 1400 = .ok (.aload_n 1, 1) := by decide +kernel
theorem ddW_law_1401 : decode code 1401 = .ok (.invokevirtual 164, 3) := by decide +kernel
theorem ddW_law_1404 : decode code 1404 = .ok (.aload_n 2, 1) := by decide +kernel
theorem ddW_law_1405 : decode code 1405 = .ok (.invokevirtual 167, 3) := by decide +kernel
theorem ddW_law_1408 : decode code 1408 = .ok (.if_icmp .eq 43, 3) := by decide +kernel
theorem ddW_law_1411 : decode code 1411 = .ok (.iconst 0, 1) := by decide +kernel
theorem ddW_law_1412 : decode code 1412 = .ok (.ireturn, 1) := by decide +kernel
theorem ddW_law_1413 : decode code 1413 = .ok (.aload_n 1, 1) := by decide +kernel
theorem ddW_law_1414 : decode code 1414 = .ok (.invokevirtual 168, 3) := by decide +kernel
theorem ddW_law_1417 : decode code 1417 = .ok (.aload_n 2, 1) := by decide +kernel
theorem ddW_law_1418 : decode code 1418 = .ok (.invokevirtual 171, 3) := by decide +kernel
theorem ddW_law_1421 : decode code 1421 = .ok (.if_icmp .eq 30, 3) := by decide +kernel
theorem ddW_law_1424 : decode code 1424 = .ok (.iconst 0, 1) := by decide +kernel
theorem ddW_law_1425 : decode code 1425 = .ok (.ireturn, 1) := by decide +kernel
theorem ddW_law_1426 : decode code 1426 = .ok (.aload_n 1, 1) := by decide +kernel
theorem ddW_law_1427 : decode code 1427 = .ok (.aload_n 0, 1) := by decide +kernel
theorem ddW_law_1428 : decode code 1428 = .ok (.iload 4, 2) := by decide +kernel
theorem ddW_law_1430 : decode code 1430 = .ok (.iconst 1, 1) := by decide +kernel
theorem ddW_law_1431 : decode code 1431 = .ok (.iadd, 1) := by decide +kernel
theorem ddW_law_1432 : decode code 1432 = .ok (.iaload, 1) := by decide +kernel
theorem ddW_law_1433 : decode code 1433 = .ok (.invokevirtual 172, 3) := by decide +kernel
theorem ddW_law_1436 : decode code 1436 = .ok (.aload_n 2, 1) := by decide +kernel
theorem ddW_law_1437 : decode code 1437 = .ok (.aload_n 0, 1) := by decide +kernel
theorem ddW_law_1438 : decode code 1438 = .ok (.iload 4, 2) := by decide +kernel
theorem ddW_law_1440 : decode code 1440 = .ok (.iconst 1, 1) := by decide +kernel
theorem ddW_law_1441 : decode code 1441 = .ok (.iadd, 1) := by decide +kernel
theorem ddW_law_1442 : decode code 1442 = .ok (.iaload, 1) := by decide +kernel
theorem ddW_law_1443 : decode code 1443 = .ok (.invokevirtual 175, 3) := by decide +kernel
theorem ddW_law_1446 : decode code 1446 = .ok (.if_icmp .eq 5, 3) := by decide +kernel
theorem ddW_law_1449 : decode code 1449 = .ok (.iconst 0, 1) := by decide +kernel
theorem ddW_law_1450 : decode code 1450 = .ok (.ireturn, 1) := by decide +kernel
theorem ddW_law_1451 : decode code 1451 = .ok (.iinc 4 6, 3) := by decide +kernel
theorem ddW_law_1454 : decode code 1454 = .ok (.goto (-1431), 3) := by decide +kernel
theorem ddW_law_1457 : decode code 1457 = .ok (.iconst 1, 1) := by decide +kernel
theorem ddW_law_1458 : decode code 1458 = .ok (.ireturn, 1) := by decide +kernel
set_option maxHeartbeats 2000000 in
theorem zW_0 {G : GXM} {X : CxM} (hG : GokM G) (C : CoM G X code "HomeFreedLaw") (N : mLM X = 7) {d : Nat} (hD : dpM X = d) (hd : 90 ≤ d) {i : Int32} {M M1 : Mem} {k n : Nat} (hkn : k ≤ X.2.2.2.1.cells ∧ n ≤ X.2.2.2.1.slots) (h : fW_0 i M = some M1) (kk : ZM G X 1451 [(0, .ref 5006), (1, .ref 1), (2, .ref 1003), (3, .ref 1021), (4, .int i)] [] M1 (k) (n)) : ZM G X 200 [(0, .ref 5006), (1, .ref 1), (2, .ref 1003), (3, .ref 1021), (4, .int i)] [] M k n := by
  unfold fW_0 at h
  refine zz_aload_n C 1 ddW_law_200 rfl rfl ?_
  refine zz_aload_n C 0 ddW_law_201 rfl rfl ?_
  refine zz_iload C 4 ddW_law_202 rfl ?_
  refine zz_iconst (v := 1) C ddW_law_204 (by decide) ?_
  refine zz_iadd C ddW_law_205 ?_
  obtain ⟨h1, h⟩ := gdN h
  refine zz_iaload C ddW_law_206 h1 ?_
  refine zz_aload_n C 0 ddW_law_207 rfl rfl ?_
  refine zz_iload C 4 ddW_law_208 rfl ?_
  refine zz_iconst (v := 2) C ddW_law_210 (by decide) ?_
  refine zz_iadd C ddW_law_211 ?_
  obtain ⟨h2, h⟩ := gdN h
  refine zz_iaload C ddW_law_212 h2 ?_
  refine zz_aload_n C 0 ddW_law_213 rfl rfl ?_
  refine zz_iload C 4 ddW_law_214 rfl ?_
  refine zz_iconst (v := 3) C ddW_law_216 (by decide) ?_
  refine zz_iadd C ddW_law_217 ?_
  obtain ⟨h3, h⟩ := gdN h
  refine zz_iaload C ddW_law_218 h3 ?_
  refine zz_aload_n C 0 ddW_law_219 rfl rfl ?_
  refine zz_iload C 4 ddW_law_220 rfl ?_
  refine zz_iconst (v := 4) C ddW_law_222 (by decide) ?_
  refine zz_iadd C ddW_law_223 ?_
  obtain ⟨h4, h⟩ := gdN h
  refine zz_iaload C ddW_law_224 h4 ?_
  refine zz_aload_n C 0 ddW_law_225 rfl rfl ?_
  refine zz_iload C 4 ddW_law_226 rfl ?_
  refine zz_iconst (v := 5) C ddW_law_228 (by decide) ?_
  refine zz_iadd C ddW_law_229 ?_
  obtain ⟨h5, h⟩ := gdN h
  refine zz_iaload C ddW_law_230 h5 ?_
  obtain ⟨h7, h⟩ := gdN h
  obtain ⟨q6, hq6, h⟩ := bindN h
  refine zz_callVk (As := [.int (giM M 5006 (Int32.toNatClampNeg (i + 1))), .int (giM M 5006 (Int32.toNatClampNeg (i + 2))), .int (giM M 5006 (Int32.toNatClampNeg (i + 3))), .int (giM M 5006 (Int32.toNatClampNeg (i + 4))), .int (giM M 5006 (Int32.toNatClampNeg (i + 5)))]) C ddW_law_231 wd_334 my_A_feed mv_A_feed ⟨_, rfl, rfl⟩ (xA_feed hG (d - 1) (by omega) hq6) (by omega) h7 rfl rfl (Nat.le_of_ble_eq_true rfl) hkn ?_
  refine zz_aload_n C 2 ddW_law_234 rfl rfl ?_
  refine zz_aload_n C 0 ddW_law_235 rfl rfl ?_
  refine zz_iload C 4 ddW_law_236 rfl ?_
  refine zz_iconst (v := 1) C ddW_law_238 (by decide) ?_
  refine zz_iadd C ddW_law_239 ?_
  obtain ⟨h8, h⟩ := gdN h
  refine zz_iaload C ddW_law_240 h8 ?_
  refine zz_aload_n C 0 ddW_law_241 rfl rfl ?_
  refine zz_iload C 4 ddW_law_242 rfl ?_
  refine zz_iconst (v := 2) C ddW_law_244 (by decide) ?_
  refine zz_iadd C ddW_law_245 ?_
  obtain ⟨h9, h⟩ := gdN h
  refine zz_iaload C ddW_law_246 h9 ?_
  refine zz_aload_n C 0 ddW_law_247 rfl rfl ?_
  refine zz_iload C 4 ddW_law_248 rfl ?_
  refine zz_iconst (v := 3) C ddW_law_250 (by decide) ?_
  refine zz_iadd C ddW_law_251 ?_
  obtain ⟨h10, h⟩ := gdN h
  refine zz_iaload C ddW_law_252 h10 ?_
  refine zz_aload_n C 0 ddW_law_253 rfl rfl ?_
  refine zz_iload C 4 ddW_law_254 rfl ?_
  refine zz_iconst (v := 4) C ddW_law_256 (by decide) ?_
  refine zz_iadd C ddW_law_257 ?_
  obtain ⟨h11, h⟩ := gdN h
  refine zz_iaload C ddW_law_258 h11 ?_
  refine zz_aload_n C 0 ddW_law_259 rfl rfl ?_
  refine zz_iload C 4 ddW_law_260 rfl ?_
  refine zz_iconst (v := 5) C ddW_law_262 (by decide) ?_
  refine zz_iadd C ddW_law_263 ?_
  obtain ⟨h12, h⟩ := gdN h
  refine zz_iaload C ddW_law_264 h12 ?_
  obtain ⟨h14, h⟩ := gdN h
  obtain ⟨q13, hq13, h⟩ := bindN h
  refine zz_callVk (As := [.int (giM q6.2 5006 (Int32.toNatClampNeg (i + 1))), .int (giM q6.2 5006 (Int32.toNatClampNeg (i + 2))), .int (giM q6.2 5006 (Int32.toNatClampNeg (i + 3))), .int (giM q6.2 5006 (Int32.toNatClampNeg (i + 4))), .int (giM q6.2 5006 (Int32.toNatClampNeg (i + 5)))]) C ddW_law_265 wd_1278 my_M_feed mv_M_feed ⟨_, rfl, rfl⟩ (xM_feed hG (d - 1) (by omega) hq13) (by omega) h14 rfl rfl (Nat.le_of_ble_eq_true rfl) hkn ?_
  refine zz_icmp_eq (tgt := 1451) C ddW_law_268 rfl (fun hc => ?_) (fun hc => ?_)
  · replace h := iteT h hc
    obtain rfl := Option.some.inj h
    exact kk
  · replace h := iteF h hc
    refine zz_iconst (v := 0) C ddW_law_271 (by decide) ?_
    cases h
set_option maxHeartbeats 2000000 in
theorem zW_1 {G : GXM} {X : CxM} (hG : GokM G) (C : CoM G X code "HomeFreedLaw") (N : mLM X = 7) {d : Nat} (hD : dpM X = d) (hd : 90 ≤ d) {i : Int32} {M M1 : Mem} {k n : Nat} (hkn : k ≤ X.2.2.2.1.cells ∧ n ≤ X.2.2.2.1.slots) (h : fW_1 i M = some M1) (kk : ZM G X 1451 [(0, .ref 5006), (1, .ref 1), (2, .ref 1003), (3, .ref 1021), (4, .int i)] [] M1 (k) (n)) : ZM G X 273 [(0, .ref 5006), (1, .ref 1), (2, .ref 1003), (3, .ref 1021), (4, .int i)] [] M k n := by
  unfold fW_1 at h
  refine zz_aload_n C 1 ddW_law_273 rfl rfl ?_
  refine zz_aload_n C 0 ddW_law_274 rfl rfl ?_
  refine zz_iload C 4 ddW_law_275 rfl ?_
  refine zz_iconst (v := 1) C ddW_law_277 (by decide) ?_
  refine zz_iadd C ddW_law_278 ?_
  obtain ⟨h1, h⟩ := gdN h
  refine zz_iaload C ddW_law_279 h1 ?_
  obtain ⟨h3, h⟩ := gdN h
  obtain ⟨q2, hq2, h⟩ := bindN h
  refine zz_callVk (As := [.int (giM M 5006 (Int32.toNatClampNeg (i + 1)))]) C ddW_law_280 wd_346 my_A_end mv_A_end ⟨_, rfl, rfl⟩ (xA_end hG (d - 1) (by omega) hq2) (by omega) h3 rfl rfl (Nat.le_of_ble_eq_true rfl) hkn ?_
  refine zz_aload_n C 2 ddW_law_283 rfl rfl ?_
  refine zz_aload_n C 0 ddW_law_284 rfl rfl ?_
  refine zz_iload C 4 ddW_law_285 rfl ?_
  refine zz_iconst (v := 1) C ddW_law_287 (by decide) ?_
  refine zz_iadd C ddW_law_288 ?_
  obtain ⟨h4, h⟩ := gdN h
  refine zz_iaload C ddW_law_289 h4 ?_
  obtain ⟨h6, h⟩ := gdN h
  obtain ⟨q5, hq5, h⟩ := bindN h
  refine zz_callVk (As := [.int (giM q2.2 5006 (Int32.toNatClampNeg (i + 1)))]) C ddW_law_290 wd_1285 my_M_end mv_M_end ⟨_, rfl, rfl⟩ (xM_end hG (d - 1) (by omega) hq5) (by omega) h6 rfl rfl (Nat.le_of_ble_eq_true rfl) hkn ?_
  refine zz_icmp_eq (tgt := 1451) C ddW_law_293 rfl (fun hc => ?_) (fun hc => ?_)
  · replace h := iteT h hc
    obtain rfl := Option.some.inj h
    exact kk
  · replace h := iteF h hc
    refine zz_iconst (v := 0) C ddW_law_296 (by decide) ?_
    cases h
set_option maxHeartbeats 2000000 in
theorem zW_2 {G : GXM} {X : CxM} (hG : GokM G) (C : CoM G X code "HomeFreedLaw") (N : mLM X = 7) {d : Nat} (hD : dpM X = d) (hd : 90 ≤ d) {i : Int32} {M M1 : Mem} {k n : Nat} (hkn : k ≤ X.2.2.2.1.cells ∧ n ≤ X.2.2.2.1.slots) (h : fW_2 i M = some M1) (kk : ZM G X 1451 [(0, .ref 5006), (1, .ref 1), (2, .ref 1003), (3, .ref 1021), (4, .int i)] [] M1 (k) (n)) : ZM G X 298 [(0, .ref 5006), (1, .ref 1), (2, .ref 1003), (3, .ref 1021), (4, .int i)] [] M k n := by
  unfold fW_2 at h
  refine zz_aload_n C 1 ddW_law_298 rfl rfl ?_
  refine zz_aload_n C 0 ddW_law_299 rfl rfl ?_
  refine zz_iload C 4 ddW_law_300 rfl ?_
  refine zz_iconst (v := 1) C ddW_law_302 (by decide) ?_
  refine zz_iadd C ddW_law_303 ?_
  obtain ⟨h1, h⟩ := gdN h
  refine zz_iaload C ddW_law_304 h1 ?_
  obtain ⟨h3, h⟩ := gdN h
  obtain ⟨q2, hq2, h⟩ := bindN h
  refine zz_callVk (As := [.int (giM M 5006 (Int32.toNatClampNeg (i + 1)))]) C ddW_law_305 wd_350 my_A_fault mv_A_fault ⟨_, rfl, rfl⟩ (xA_fault hG (d - 1) (by omega) hq2) (by omega) h3 rfl rfl (Nat.le_of_ble_eq_true rfl) hkn ?_
  refine zz_aload_n C 2 ddW_law_308 rfl rfl ?_
  refine zz_aload_n C 0 ddW_law_309 rfl rfl ?_
  refine zz_iload C 4 ddW_law_310 rfl ?_
  refine zz_iconst (v := 1) C ddW_law_312 (by decide) ?_
  refine zz_iadd C ddW_law_313 ?_
  obtain ⟨h4, h⟩ := gdN h
  refine zz_iaload C ddW_law_314 h4 ?_
  obtain ⟨h6, h⟩ := gdN h
  obtain ⟨q5, hq5, h⟩ := bindN h
  refine zz_callVk (As := [.int (giM q2.2 5006 (Int32.toNatClampNeg (i + 1)))]) C ddW_law_315 wd_1292 my_M_fault mv_M_fault ⟨_, rfl, rfl⟩ (xM_fault hG (d - 1) (by omega) hq5) (by omega) h6 rfl rfl (Nat.le_of_ble_eq_true rfl) hkn ?_
  refine zz_icmp_eq (tgt := 1451) C ddW_law_318 rfl (fun hc => ?_) (fun hc => ?_)
  · replace h := iteT h hc
    obtain rfl := Option.some.inj h
    exact kk
  · replace h := iteF h hc
    refine zz_iconst (v := 0) C ddW_law_321 (by decide) ?_
    cases h
set_option maxHeartbeats 2000000 in
theorem zW_3 {G : GXM} {X : CxM} (hG : GokM G) (C : CoM G X code "HomeFreedLaw") (N : mLM X = 7) {d : Nat} (hD : dpM X = d) (hd : 90 ≤ d) {i : Int32} {M M1 : Mem} {k n : Nat} (hkn : k ≤ X.2.2.2.1.cells ∧ n ≤ X.2.2.2.1.slots) (h : fW_3 i M = some M1) (kk : ZM G X 1451 [(0, .ref 5006), (1, .ref 1), (2, .ref 1003), (3, .ref 1021), (4, .int i)] [] M1 (k) (n)) : ZM G X 323 [(0, .ref 5006), (1, .ref 1), (2, .ref 1003), (3, .ref 1021), (4, .int i)] [] M k n := by
  unfold fW_3 at h
  refine zz_aload_n C 1 ddW_law_323 rfl rfl ?_
  refine zz_aload_n C 0 ddW_law_324 rfl rfl ?_
  refine zz_iload C 4 ddW_law_325 rfl ?_
  refine zz_iconst (v := 1) C ddW_law_327 (by decide) ?_
  refine zz_iadd C ddW_law_328 ?_
  obtain ⟨h1, h⟩ := gdN h
  refine zz_iaload C ddW_law_329 h1 ?_
  obtain ⟨h3, h⟩ := gdN h
  obtain ⟨q2, hq2, h⟩ := bindN h
  refine zz_callVk (As := [.int (giM M 5006 (Int32.toNatClampNeg (i + 1)))]) C ddW_law_330 wd_529 my_A_text mv_A_text ⟨_, rfl, rfl⟩ (xA_text hG (d - 1) (by omega) hq2) (by omega) h3 rfl rfl (Nat.le_of_ble_eq_true rfl) hkn ?_
  refine zz_aload_n C 2 ddW_law_333 rfl rfl ?_
  refine zz_aload_n C 0 ddW_law_334 rfl rfl ?_
  refine zz_iload C 4 ddW_law_335 rfl ?_
  refine zz_iconst (v := 1) C ddW_law_337 (by decide) ?_
  refine zz_iadd C ddW_law_338 ?_
  obtain ⟨h4, h⟩ := gdN h
  refine zz_iaload C ddW_law_339 h4 ?_
  obtain ⟨h6, h⟩ := gdN h
  obtain ⟨q5, hq5, h⟩ := bindN h
  refine zz_callVk (As := [.int (giM q2.2 5006 (Int32.toNatClampNeg (i + 1)))]) C ddW_law_340 wd_1350 my_M_text mv_M_text ⟨_, rfl, rfl⟩ (xM_text hG (d - 1) (by omega) hq5) (by omega) h6 rfl rfl (Nat.le_of_ble_eq_true rfl) hkn ?_
  refine zz_icmp_eq (tgt := 1451) C ddW_law_343 rfl (fun hc => ?_) (fun hc => ?_)
  · replace h := iteT h hc
    obtain rfl := Option.some.inj h
    exact kk
  · replace h := iteF h hc
    refine zz_iconst (v := 0) C ddW_law_346 (by decide) ?_
    cases h
set_option maxHeartbeats 2000000 in
theorem zW_4 {G : GXM} {X : CxM} (hG : GokM G) (C : CoM G X code "HomeFreedLaw") (N : mLM X = 7) {d : Nat} (hD : dpM X = d) (hd : 90 ≤ d) {i : Int32} {M M1 : Mem} {k n : Nat} (hkn : k ≤ X.2.2.2.1.cells ∧ n ≤ X.2.2.2.1.slots) (h : fW_4 i M = some M1) (kk : ZM G X 1451 [(0, .ref 5006), (1, .ref 1), (2, .ref 1003), (3, .ref 1021), (4, .int i)] [] M1 (k) (n)) : ZM G X 348 [(0, .ref 5006), (1, .ref 1), (2, .ref 1003), (3, .ref 1021), (4, .int i)] [] M k n := by
  unfold fW_4 at h
  refine zz_aload_n C 1 ddW_law_348 rfl rfl ?_
  refine zz_aload_n C 0 ddW_law_349 rfl rfl ?_
  refine zz_iload C 4 ddW_law_350 rfl ?_
  refine zz_iconst (v := 1) C ddW_law_352 (by decide) ?_
  refine zz_iadd C ddW_law_353 ?_
  obtain ⟨h1, h⟩ := gdN h
  refine zz_iaload C ddW_law_354 h1 ?_
  obtain ⟨h3, h⟩ := gdN h
  obtain ⟨q2, hq2, h⟩ := bindN h
  refine zz_callVk (As := [.int (giM M 5006 (Int32.toNatClampNeg (i + 1)))]) C ddW_law_355 wd_562 my_A_rule mv_A_rule ⟨_, rfl, rfl⟩ (xA_rule hG (d - 1) (by omega) hq2) (by omega) h3 rfl rfl (Nat.le_of_ble_eq_true rfl) hkn ?_
  refine zz_aload_n C 2 ddW_law_358 rfl rfl ?_
  refine zz_aload_n C 0 ddW_law_359 rfl rfl ?_
  refine zz_iload C 4 ddW_law_360 rfl ?_
  refine zz_iconst (v := 1) C ddW_law_362 (by decide) ?_
  refine zz_iadd C ddW_law_363 ?_
  obtain ⟨h4, h⟩ := gdN h
  refine zz_iaload C ddW_law_364 h4 ?_
  obtain ⟨h6, h⟩ := gdN h
  obtain ⟨q5, hq5, h⟩ := bindN h
  refine zz_callVk (As := [.int (giM q2.2 5006 (Int32.toNatClampNeg (i + 1)))]) C ddW_law_365 wd_1358 my_M_rule mv_M_rule ⟨_, rfl, rfl⟩ (xM_rule hG (d - 1) (by omega) hq5) (by omega) h6 rfl rfl (Nat.le_of_ble_eq_true rfl) hkn ?_
  refine zz_icmp_eq (tgt := 1451) C ddW_law_368 rfl (fun hc => ?_) (fun hc => ?_)
  · replace h := iteT h hc
    obtain rfl := Option.some.inj h
    exact kk
  · replace h := iteF h hc
    refine zz_iconst (v := 0) C ddW_law_371 (by decide) ?_
    cases h
set_option maxHeartbeats 2000000 in
theorem zW_5 {G : GXM} {X : CxM} (hG : GokM G) (C : CoM G X code "HomeFreedLaw") (N : mLM X = 7) {d : Nat} (hD : dpM X = d) (hd : 90 ≤ d) {i : Int32} {M M1 : Mem} {k n : Nat} (hkn : k ≤ X.2.2.2.1.cells ∧ n ≤ X.2.2.2.1.slots) (h : fW_5 i M = some M1) (kk : ZM G X 1451 [(0, .ref 5006), (1, .ref 1), (2, .ref 1003), (3, .ref 1021), (4, .int i)] [] M1 (k) (n)) : ZM G X 373 [(0, .ref 5006), (1, .ref 1), (2, .ref 1003), (3, .ref 1021), (4, .int i)] [] M k n := by
  unfold fW_5 at h
  refine zz_aload_n C 1 ddW_law_373 rfl rfl ?_
  refine zz_aload_n C 0 ddW_law_374 rfl rfl ?_
  refine zz_iload C 4 ddW_law_375 rfl ?_
  refine zz_iconst (v := 1) C ddW_law_377 (by decide) ?_
  refine zz_iadd C ddW_law_378 ?_
  obtain ⟨h1, h⟩ := gdN h
  refine zz_iaload C ddW_law_379 h1 ?_
  obtain ⟨h3, h⟩ := gdN h
  obtain ⟨q2, hq2, h⟩ := bindN h
  refine zz_callVk (As := [.int (giM M 5006 (Int32.toNatClampNeg (i + 1)))]) C ddW_law_380 wd_570 my_A_size mv_A_size ⟨_, rfl, rfl⟩ (xA_size hG (d - 1) (by omega) hq2) (by omega) h3 rfl rfl (Nat.le_of_ble_eq_true rfl) hkn ?_
  refine zz_aload_n C 2 ddW_law_383 rfl rfl ?_
  refine zz_aload_n C 0 ddW_law_384 rfl rfl ?_
  refine zz_iload C 4 ddW_law_385 rfl ?_
  refine zz_iconst (v := 1) C ddW_law_387 (by decide) ?_
  refine zz_iadd C ddW_law_388 ?_
  obtain ⟨h4, h⟩ := gdN h
  refine zz_iaload C ddW_law_389 h4 ?_
  obtain ⟨h6, h⟩ := gdN h
  obtain ⟨q5, hq5, h⟩ := bindN h
  refine zz_callVk (As := [.int (giM q2.2 5006 (Int32.toNatClampNeg (i + 1)))]) C ddW_law_390 wd_1366 my_M_size mv_M_size ⟨_, rfl, rfl⟩ (xM_size hG (d - 1) (by omega) hq5) (by omega) h6 rfl rfl (Nat.le_of_ble_eq_true rfl) hkn ?_
  refine zz_icmp_eq (tgt := 1451) C ddW_law_393 rfl (fun hc => ?_) (fun hc => ?_)
  · replace h := iteT h hc
    obtain rfl := Option.some.inj h
    exact kk
  · replace h := iteF h hc
    refine zz_iconst (v := 0) C ddW_law_396 (by decide) ?_
    cases h
set_option maxHeartbeats 2000000 in
theorem zW_6 {G : GXM} {X : CxM} (hG : GokM G) (C : CoM G X code "HomeFreedLaw") (N : mLM X = 7) {d : Nat} (hD : dpM X = d) (hd : 90 ≤ d) (hf : G.2.2.2.2 = false) (hT : TxM G) (hl : X.2.1.stackTraces = false) {i : Int32} {M M1 : Mem} {k n : Nat} (hkn : k + 1 ≤ X.2.2.2.1.cells ∧ n + 6 ≤ X.2.2.2.1.slots) (h : fW_6 i M = some M1) (kk : ZM G X 1451 [(0, .ref 5006), (1, .ref 1), (2, .ref 1003), (3, .ref 1021), (4, .int i)] [] M1 (k + 1) (n + 6)) : ZM G X 398 [(0, .ref 5006), (1, .ref 1), (2, .ref 1003), (3, .ref 1021), (4, .int i)] [] M k n := by
  unfold fW_6 at h
  refine zz_aload_n C 1 ddW_law_398 rfl rfl ?_
  refine zz_aload_n C 0 ddW_law_399 rfl rfl ?_
  refine zz_iload C 4 ddW_law_400 rfl ?_
  refine zz_iconst (v := 1) C ddW_law_402 (by decide) ?_
  refine zz_iadd C ddW_law_403 ?_
  obtain ⟨h1, h⟩ := gdN h
  refine zz_iaload C ddW_law_404 h1 ?_
  refine zz_aload_n C 0 ddW_law_405 rfl rfl ?_
  refine zz_iload C 4 ddW_law_406 rfl ?_
  refine zz_iconst (v := 2) C ddW_law_408 (by decide) ?_
  refine zz_iadd C ddW_law_409 ?_
  obtain ⟨h2, h⟩ := gdN h
  refine zz_iaload C ddW_law_410 h2 ?_
  refine zz_aload_n C 3 ddW_law_411 rfl rfl ?_
  obtain ⟨q3, hq3, h⟩ := bindN h
  refine zzW_call (As := [.ref 1, .int (giM M 5006 (Int32.toNatClampNeg (i + 1))), .int (giM M 5006 (Int32.toNatClampNeg (i + 2))), .ref 1021]) C ddW_law_412 wd_1087 my_W_page mv_W_page (xW_page hG hf hT hl (d - 1) (by omega) hq3) (by omega) rfl rfl (Nat.le_of_ble_eq_true rfl) hkn ?_
  refine zz_istore (L1 := [(5, .int q3.1), (0, .ref 5006), (1, .ref 1), (2, .ref 1003), (3, .ref 1021), (4, .int i)]) C ddW_law_415 N (by decide) rfl ?_
  refine zz_aload_n C 3 ddW_law_417 rfl rfl ?_
  refine zz_aload_n C 1 ddW_law_418 rfl rfl ?_
  refine zz_iload C 5 ddW_law_419 rfl ?_
  refine zz_iconst (v := 1) C ddW_law_421 (by decide) ?_
  refine zz_iadd C ddW_law_422 ?_
  obtain ⟨h4, h⟩ := gdN h
  refine zz_iaload C ddW_law_423 h4 ?_
  refine zz_aload_n C 1 ddW_law_424 rfl rfl ?_
  refine zz_iload C 5 ddW_law_425 rfl ?_
  refine zz_iconst (v := 2) C ddW_law_427 (by decide) ?_
  refine zz_iadd C ddW_law_428 ?_
  obtain ⟨h5, h⟩ := gdN h
  refine zz_iaload C ddW_law_429 h5 ?_
  obtain ⟨h7, h⟩ := gdN h
  obtain ⟨q6, hq6, h⟩ := bindN h
  refine zz_callVk (As := [.int (giM q3.2 5006 (Int32.toNatClampNeg (i + 1))), .int (giM q3.2 5006 (Int32.toNatClampNeg (i + 2)))]) C ddW_law_430 wd_1370 my_M_page mv_M_page ⟨_, rfl, rfl⟩ (xM_page hG (d - 1) (by omega) hq6) (by omega) h7 rfl rfl (Nat.le_of_ble_eq_true rfl) hkn ?_
  refine zz_istore (L1 := [(6, .int q6.1), (5, .int q3.1), (0, .ref 5006), (1, .ref 1), (2, .ref 1003), (3, .ref 1021), (4, .int i)]) C ddW_law_433 N (by decide) rfl ?_
  refine zz_aload_n C 4 ddW_law_435 rfl rfl ?_
  obtain ⟨h9, h⟩ := gdN h
  obtain ⟨q8, hq8, h⟩ := bindN h
  refine zz_callVk (As := []) C ddW_law_436 wd_1274 my_M_thrown mv_M_thrown ⟨_, rfl, rfl⟩ (xM_thrown hG (d - 1) (by omega) hq8) (by omega) h9 rfl rfl (Nat.le_of_ble_eq_true rfl) hkn ?_
  refine zz_iload C 1 ddW_law_439 rfl ?_
  refine zz_icmp_eq (tgt := 446) C ddW_law_441 rfl (fun hc => ?_) (fun hc => ?_)
  · replace h := iteT h hc
    refine zz_iload C 1 ddW_law_446 rfl ?_
    refine zz_if_ne (tgt := 463) C ddW_law_448 rfl (fun hc => ?_) (fun hc => ?_)
    · replace h := iteF h hc
      refine zz_goto (tgt := 1451) C ddW_law_463 rfl ?_
      obtain rfl := Option.some.inj h
      refine zz_loc (L1 := [(0, .ref 5006), (1, .ref 1), (2, .ref 1003), (3, .ref 1021), (4, .int i)]) [2, 3, 4, 5, 6] rfl ?_
      exact kk
    · replace h := iteT h hc
      refine zz_aload_n C 5 ddW_law_451 rfl rfl ?_
      refine zz_iconst (v := 0) C ddW_law_452 (by decide) ?_
      obtain ⟨h10, h⟩ := gdN h
      refine zz_laload C ddW_law_453 h10 ?_
      refine zz_iload C 0 ddW_law_454 rfl ?_
      refine zz_i2l C ddW_law_456 ?_
      refine zz_lcmp C ddW_law_457 ?_
      refine zz_if_eq (tgt := 463) C ddW_law_458 rfl (fun hc => ?_) (fun hc => ?_)
      · replace h := iteT h hc
        refine zz_goto (tgt := 1451) C ddW_law_463 rfl ?_
        obtain rfl := Option.some.inj h
        refine zz_loc (L1 := [(0, .ref 5006), (1, .ref 1), (2, .ref 1003), (3, .ref 1021), (4, .int i)]) [2, 3, 4, 5, 6] rfl ?_
        exact kk
      · replace h := iteF h hc
        refine zz_iconst (v := 0) C ddW_law_461 (by decide) ?_
        cases h
  · replace h := iteF h hc
    refine zz_iconst (v := 0) C ddW_law_444 (by decide) ?_
    cases h
set_option maxHeartbeats 2000000 in
theorem zW_7 {G : GXM} {X : CxM} (hG : GokM G) (C : CoM G X code "HomeFreedLaw") (N : mLM X = 7) {d : Nat} (hD : dpM X = d) (hd : 90 ≤ d) {i : Int32} {M M1 : Mem} {k n : Nat} (hkn : k ≤ X.2.2.2.1.cells ∧ n ≤ X.2.2.2.1.slots) (h : fW_7 i M = some M1) (kk : ZM G X 1451 [(0, .ref 5006), (1, .ref 1), (2, .ref 1003), (3, .ref 1021), (4, .int i)] [] M1 (k) (n)) : ZM G X 466 [(0, .ref 5006), (1, .ref 1), (2, .ref 1003), (3, .ref 1021), (4, .int i)] [] M k n := by
  unfold fW_7 at h
  refine zz_aload_n C 1 ddW_law_466 rfl rfl ?_
  refine zz_aload_n C 0 ddW_law_467 rfl rfl ?_
  refine zz_iload C 4 ddW_law_468 rfl ?_
  refine zz_iconst (v := 1) C ddW_law_470 (by decide) ?_
  refine zz_iadd C ddW_law_471 ?_
  obtain ⟨h1, h⟩ := gdN h
  refine zz_iaload C ddW_law_472 h1 ?_
  refine zz_aload_n C 0 ddW_law_473 rfl rfl ?_
  refine zz_iload C 4 ddW_law_474 rfl ?_
  refine zz_iconst (v := 2) C ddW_law_476 (by decide) ?_
  refine zz_iadd C ddW_law_477 ?_
  obtain ⟨h2, h⟩ := gdN h
  refine zz_iaload C ddW_law_478 h2 ?_
  refine zz_aload_n C 0 ddW_law_479 rfl rfl ?_
  refine zz_iload C 4 ddW_law_480 rfl ?_
  refine zz_iconst (v := 3) C ddW_law_482 (by decide) ?_
  refine zz_iadd C ddW_law_483 ?_
  obtain ⟨h3, h⟩ := gdN h
  refine zz_iaload C ddW_law_484 h3 ?_
  obtain ⟨h5, h⟩ := gdN h
  obtain ⟨q4, hq4, h⟩ := bindN h
  refine zz_callVk (As := [.int (giM M 5006 (Int32.toNatClampNeg (i + 1))), .int (giM M 5006 (Int32.toNatClampNeg (i + 2))), .int (giM M 5006 (Int32.toNatClampNeg (i + 3)))]) C ddW_law_485 wd_578 my_A_list mv_A_list ⟨_, rfl, rfl⟩ (xA_list hG (d - 1) (by omega) hq4) (by omega) h5 rfl rfl (Nat.le_of_ble_eq_true rfl) hkn ?_
  refine zz_aload_n C 2 ddW_law_488 rfl rfl ?_
  refine zz_aload_n C 0 ddW_law_489 rfl rfl ?_
  refine zz_iload C 4 ddW_law_490 rfl ?_
  refine zz_iconst (v := 1) C ddW_law_492 (by decide) ?_
  refine zz_iadd C ddW_law_493 ?_
  obtain ⟨h6, h⟩ := gdN h
  refine zz_iaload C ddW_law_494 h6 ?_
  refine zz_aload_n C 0 ddW_law_495 rfl rfl ?_
  refine zz_iload C 4 ddW_law_496 rfl ?_
  refine zz_iconst (v := 2) C ddW_law_498 (by decide) ?_
  refine zz_iadd C ddW_law_499 ?_
  obtain ⟨h7, h⟩ := gdN h
  refine zz_iaload C ddW_law_500 h7 ?_
  refine zz_aload_n C 0 ddW_law_501 rfl rfl ?_
  refine zz_iload C 4 ddW_law_502 rfl ?_
  refine zz_iconst (v := 3) C ddW_law_504 (by decide) ?_
  refine zz_iadd C ddW_law_505 ?_
  obtain ⟨h8, h⟩ := gdN h
  refine zz_iaload C ddW_law_506 h8 ?_
  obtain ⟨h10, h⟩ := gdN h
  obtain ⟨q9, hq9, h⟩ := bindN h
  refine zz_callVk (As := [.int (giM q4.2 5006 (Int32.toNatClampNeg (i + 1))), .int (giM q4.2 5006 (Int32.toNatClampNeg (i + 2))), .int (giM q4.2 5006 (Int32.toNatClampNeg (i + 3)))]) C ddW_law_507 wd_1401 my_M_list mv_M_list ⟨_, rfl, rfl⟩ (xM_list hG (d - 1) (by omega) hq9) (by omega) h10 rfl rfl (Nat.le_of_ble_eq_true rfl) hkn ?_
  refine zz_icmp_eq (tgt := 1451) C ddW_law_510 rfl (fun hc => ?_) (fun hc => ?_)
  · replace h := iteT h hc
    obtain rfl := Option.some.inj h
    exact kk
  · replace h := iteF h hc
    refine zz_iconst (v := 0) C ddW_law_513 (by decide) ?_
    cases h
set_option maxHeartbeats 2000000 in
theorem zW_8 {G : GXM} {X : CxM} (hG : GokM G) (C : CoM G X code "HomeFreedLaw") (N : mLM X = 7) {d : Nat} (hD : dpM X = d) (hd : 90 ≤ d) {i : Int32} {M M1 : Mem} {k n : Nat} (hkn : k ≤ X.2.2.2.1.cells ∧ n ≤ X.2.2.2.1.slots) (h : fW_8 i M = some M1) (kk : ZM G X 1451 [(0, .ref 5006), (1, .ref 1), (2, .ref 1003), (3, .ref 1021), (4, .int i)] [] M1 (k) (n)) : ZM G X 515 [(0, .ref 5006), (1, .ref 1), (2, .ref 1003), (3, .ref 1021), (4, .int i)] [] M k n := by
  unfold fW_8 at h
  refine zz_aload_n C 1 ddW_law_515 rfl rfl ?_
  refine zz_aload_n C 0 ddW_law_516 rfl rfl ?_
  refine zz_iload C 4 ddW_law_517 rfl ?_
  refine zz_iconst (v := 1) C ddW_law_519 (by decide) ?_
  refine zz_iadd C ddW_law_520 ?_
  obtain ⟨h1, h⟩ := gdN h
  refine zz_iaload C ddW_law_521 h1 ?_
  refine zz_aload_n C 0 ddW_law_522 rfl rfl ?_
  refine zz_iload C 4 ddW_law_523 rfl ?_
  refine zz_iconst (v := 2) C ddW_law_525 (by decide) ?_
  refine zz_iadd C ddW_law_526 ?_
  obtain ⟨h2, h⟩ := gdN h
  refine zz_iaload C ddW_law_527 h2 ?_
  obtain ⟨h4, h⟩ := gdN h
  obtain ⟨q3, hq3, h⟩ := bindN h
  refine zz_callVk (As := [.int (giM M 5006 (Int32.toNatClampNeg (i + 1))), .int (giM M 5006 (Int32.toNatClampNeg (i + 2)))]) C ddW_law_528 wd_598 my_A_thread mv_A_thread ⟨_, rfl, rfl⟩ (xA_thread hG (d - 1) (by omega) hq3) (by omega) h4 rfl rfl (Nat.le_of_ble_eq_true rfl) hkn ?_
  refine zz_aload_n C 2 ddW_law_531 rfl rfl ?_
  refine zz_aload_n C 0 ddW_law_532 rfl rfl ?_
  refine zz_iload C 4 ddW_law_533 rfl ?_
  refine zz_iconst (v := 1) C ddW_law_535 (by decide) ?_
  refine zz_iadd C ddW_law_536 ?_
  obtain ⟨h5, h⟩ := gdN h
  refine zz_iaload C ddW_law_537 h5 ?_
  refine zz_aload_n C 0 ddW_law_538 rfl rfl ?_
  refine zz_iload C 4 ddW_law_539 rfl ?_
  refine zz_iconst (v := 2) C ddW_law_541 (by decide) ?_
  refine zz_iadd C ddW_law_542 ?_
  obtain ⟨h6, h⟩ := gdN h
  refine zz_iaload C ddW_law_543 h6 ?_
  obtain ⟨h8, h⟩ := gdN h
  obtain ⟨q7, hq7, h⟩ := bindN h
  refine zz_callVk (As := [.int (giM q3.2 5006 (Int32.toNatClampNeg (i + 1))), .int (giM q3.2 5006 (Int32.toNatClampNeg (i + 2)))]) C ddW_law_544 wd_1405 my_M_thread mv_M_thread ⟨_, rfl, rfl⟩ (xM_thread hG (d - 1) (by omega) hq7) (by omega) h8 rfl rfl (Nat.le_of_ble_eq_true rfl) hkn ?_
  refine zz_icmp_eq (tgt := 1451) C ddW_law_547 rfl (fun hc => ?_) (fun hc => ?_)
  · replace h := iteT h hc
    obtain rfl := Option.some.inj h
    exact kk
  · replace h := iteF h hc
    refine zz_iconst (v := 0) C ddW_law_550 (by decide) ?_
    cases h
set_option maxHeartbeats 2000000 in
theorem zW_9 {G : GXM} {X : CxM} (hG : GokM G) (C : CoM G X code "HomeFreedLaw") (N : mLM X = 7) {d : Nat} (hD : dpM X = d) (hd : 90 ≤ d) {i : Int32} {M M1 : Mem} {k n : Nat} (hkn : k ≤ X.2.2.2.1.cells ∧ n ≤ X.2.2.2.1.slots) (h : fW_9 i M = some M1) (kk : ZM G X 1451 [(0, .ref 5006), (1, .ref 1), (2, .ref 1003), (3, .ref 1021), (4, .int i)] [] M1 (k) (n)) : ZM G X 552 [(0, .ref 5006), (1, .ref 1), (2, .ref 1003), (3, .ref 1021), (4, .int i)] [] M k n := by
  unfold fW_9 at h
  refine zz_aload_n C 1 ddW_law_552 rfl rfl ?_
  refine zz_aload_n C 0 ddW_law_553 rfl rfl ?_
  refine zz_iload C 4 ddW_law_554 rfl ?_
  refine zz_iconst (v := 1) C ddW_law_556 (by decide) ?_
  refine zz_iadd C ddW_law_557 ?_
  obtain ⟨h1, h⟩ := gdN h
  refine zz_iaload C ddW_law_558 h1 ?_
  refine zz_aload_n C 0 ddW_law_559 rfl rfl ?_
  refine zz_iload C 4 ddW_law_560 rfl ?_
  refine zz_iconst (v := 2) C ddW_law_562 (by decide) ?_
  refine zz_iadd C ddW_law_563 ?_
  obtain ⟨h2, h⟩ := gdN h
  refine zz_iaload C ddW_law_564 h2 ?_
  refine zz_aload_n C 0 ddW_law_565 rfl rfl ?_
  refine zz_iload C 4 ddW_law_566 rfl ?_
  refine zz_iconst (v := 3) C ddW_law_568 (by decide) ?_
  refine zz_iadd C ddW_law_569 ?_
  obtain ⟨h3, h⟩ := gdN h
  refine zz_iaload C ddW_law_570 h3 ?_
  obtain ⟨h5, h⟩ := gdN h
  obtain ⟨q4, hq4, h⟩ := bindN h
  refine zz_callVk (As := [.int (giM M 5006 (Int32.toNatClampNeg (i + 1))), .int (giM M 5006 (Int32.toNatClampNeg (i + 2))), .int (giM M 5006 (Int32.toNatClampNeg (i + 3)))]) C ddW_law_571 wd_623 my_A_queue mv_A_queue ⟨_, rfl, rfl⟩ (xA_queue hG (d - 1) (by omega) hq4) (by omega) h5 rfl rfl (Nat.le_of_ble_eq_true rfl) hkn ?_
  refine zz_aload_n C 2 ddW_law_574 rfl rfl ?_
  refine zz_aload_n C 0 ddW_law_575 rfl rfl ?_
  refine zz_iload C 4 ddW_law_576 rfl ?_
  refine zz_iconst (v := 1) C ddW_law_578 (by decide) ?_
  refine zz_iadd C ddW_law_579 ?_
  obtain ⟨h6, h⟩ := gdN h
  refine zz_iaload C ddW_law_580 h6 ?_
  refine zz_aload_n C 0 ddW_law_581 rfl rfl ?_
  refine zz_iload C 4 ddW_law_582 rfl ?_
  refine zz_iconst (v := 2) C ddW_law_584 (by decide) ?_
  refine zz_iadd C ddW_law_585 ?_
  obtain ⟨h7, h⟩ := gdN h
  refine zz_iaload C ddW_law_586 h7 ?_
  refine zz_aload_n C 0 ddW_law_587 rfl rfl ?_
  refine zz_iload C 4 ddW_law_588 rfl ?_
  refine zz_iconst (v := 3) C ddW_law_590 (by decide) ?_
  refine zz_iadd C ddW_law_591 ?_
  obtain ⟨h8, h⟩ := gdN h
  refine zz_iaload C ddW_law_592 h8 ?_
  obtain ⟨h10, h⟩ := gdN h
  obtain ⟨q9, hq9, h⟩ := bindN h
  refine zz_callVk (As := [.int (giM q4.2 5006 (Int32.toNatClampNeg (i + 1))), .int (giM q4.2 5006 (Int32.toNatClampNeg (i + 2))), .int (giM q4.2 5006 (Int32.toNatClampNeg (i + 3)))]) C ddW_law_593 wd_1428 my_M_queue mv_M_queue ⟨_, rfl, rfl⟩ (xM_queue hG (d - 1) (by omega) hq9) (by omega) h10 rfl rfl (Nat.le_of_ble_eq_true rfl) hkn ?_
  refine zz_icmp_eq (tgt := 1451) C ddW_law_596 rfl (fun hc => ?_) (fun hc => ?_)
  · replace h := iteT h hc
    obtain rfl := Option.some.inj h
    exact kk
  · replace h := iteF h hc
    refine zz_iconst (v := 0) C ddW_law_599 (by decide) ?_
    cases h
set_option maxHeartbeats 2000000 in
theorem zW_10 {G : GXM} {X : CxM} (hG : GokM G) (C : CoM G X code "HomeFreedLaw") (N : mLM X = 7) {d : Nat} (hD : dpM X = d) (hd : 90 ≤ d) {i : Int32} {M M1 : Mem} {k n : Nat} (hkn : k ≤ X.2.2.2.1.cells ∧ n ≤ X.2.2.2.1.slots) (h : fW_10 i M = some M1) (kk : ZM G X 1451 [(0, .ref 5006), (1, .ref 1), (2, .ref 1003), (3, .ref 1021), (4, .int i)] [] M1 (k) (n)) : ZM G X 601 [(0, .ref 5006), (1, .ref 1), (2, .ref 1003), (3, .ref 1021), (4, .int i)] [] M k n := by
  unfold fW_10 at h
  refine zz_aload_n C 1 ddW_law_601 rfl rfl ?_
  refine zz_aload_n C 0 ddW_law_602 rfl rfl ?_
  refine zz_iload C 4 ddW_law_603 rfl ?_
  refine zz_iconst (v := 1) C ddW_law_605 (by decide) ?_
  refine zz_iadd C ddW_law_606 ?_
  obtain ⟨h1, h⟩ := gdN h
  refine zz_iaload C ddW_law_607 h1 ?_
  refine zz_aload_n C 0 ddW_law_608 rfl rfl ?_
  refine zz_iload C 4 ddW_law_609 rfl ?_
  refine zz_iconst (v := 2) C ddW_law_611 (by decide) ?_
  refine zz_iadd C ddW_law_612 ?_
  obtain ⟨h2, h⟩ := gdN h
  refine zz_iaload C ddW_law_613 h2 ?_
  refine zz_aload_n C 0 ddW_law_614 rfl rfl ?_
  refine zz_iload C 4 ddW_law_615 rfl ?_
  refine zz_iconst (v := 3) C ddW_law_617 (by decide) ?_
  refine zz_iadd C ddW_law_618 ?_
  obtain ⟨h3, h⟩ := gdN h
  refine zz_iaload C ddW_law_619 h3 ?_
  obtain ⟨h5, h⟩ := gdN h
  obtain ⟨q4, hq4, h⟩ := bindN h
  refine zz_callVk (As := [.int (giM M 5006 (Int32.toNatClampNeg (i + 1))), .int (giM M 5006 (Int32.toNatClampNeg (i + 2))), .int (giM M 5006 (Int32.toNatClampNeg (i + 3)))]) C ddW_law_620 wd_631 my_A_outbox mv_A_outbox ⟨_, rfl, rfl⟩ (xA_outbox hG (d - 1) (by omega) hq4) (by omega) h5 rfl rfl (Nat.le_of_ble_eq_true rfl) hkn ?_
  refine zz_aload_n C 2 ddW_law_623 rfl rfl ?_
  refine zz_aload_n C 0 ddW_law_624 rfl rfl ?_
  refine zz_iload C 4 ddW_law_625 rfl ?_
  refine zz_iconst (v := 1) C ddW_law_627 (by decide) ?_
  refine zz_iadd C ddW_law_628 ?_
  obtain ⟨h6, h⟩ := gdN h
  refine zz_iaload C ddW_law_629 h6 ?_
  refine zz_aload_n C 0 ddW_law_630 rfl rfl ?_
  refine zz_iload C 4 ddW_law_631 rfl ?_
  refine zz_iconst (v := 2) C ddW_law_633 (by decide) ?_
  refine zz_iadd C ddW_law_634 ?_
  obtain ⟨h7, h⟩ := gdN h
  refine zz_iaload C ddW_law_635 h7 ?_
  refine zz_aload_n C 0 ddW_law_636 rfl rfl ?_
  refine zz_iload C 4 ddW_law_637 rfl ?_
  refine zz_iconst (v := 3) C ddW_law_639 (by decide) ?_
  refine zz_iadd C ddW_law_640 ?_
  obtain ⟨h8, h⟩ := gdN h
  refine zz_iaload C ddW_law_641 h8 ?_
  obtain ⟨h10, h⟩ := gdN h
  obtain ⟨q9, hq9, h⟩ := bindN h
  refine zz_callVk (As := [.int (giM q4.2 5006 (Int32.toNatClampNeg (i + 1))), .int (giM q4.2 5006 (Int32.toNatClampNeg (i + 2))), .int (giM q4.2 5006 (Int32.toNatClampNeg (i + 3)))]) C ddW_law_642 wd_1435 my_M_outbox mv_M_outbox ⟨_, rfl, rfl⟩ (xM_outbox hG (d - 1) (by omega) hq9) (by omega) h10 rfl rfl (Nat.le_of_ble_eq_true rfl) hkn ?_
  refine zz_icmp_eq (tgt := 1451) C ddW_law_645 rfl (fun hc => ?_) (fun hc => ?_)
  · replace h := iteT h hc
    obtain rfl := Option.some.inj h
    exact kk
  · replace h := iteF h hc
    refine zz_iconst (v := 0) C ddW_law_648 (by decide) ?_
    cases h
set_option maxHeartbeats 2000000 in
theorem zW_11 {G : GXM} {X : CxM} (hG : GokM G) (C : CoM G X code "HomeFreedLaw") (N : mLM X = 7) {d : Nat} (hD : dpM X = d) (hd : 90 ≤ d) {i : Int32} {M M1 : Mem} {k n : Nat} (hkn : k ≤ X.2.2.2.1.cells ∧ n ≤ X.2.2.2.1.slots) (h : fW_11 i M = some M1) (kk : ZM G X 1451 [(0, .ref 5006), (1, .ref 1), (2, .ref 1003), (3, .ref 1021), (4, .int i)] [] M1 (k) (n)) : ZM G X 650 [(0, .ref 5006), (1, .ref 1), (2, .ref 1003), (3, .ref 1021), (4, .int i)] [] M k n := by
  unfold fW_11 at h
  refine zz_aload_n C 1 ddW_law_650 rfl rfl ?_
  refine zz_aload_n C 0 ddW_law_651 rfl rfl ?_
  refine zz_iload C 4 ddW_law_652 rfl ?_
  refine zz_iconst (v := 1) C ddW_law_654 (by decide) ?_
  refine zz_iadd C ddW_law_655 ?_
  obtain ⟨h1, h⟩ := gdN h
  refine zz_iaload C ddW_law_656 h1 ?_
  obtain ⟨h3, h⟩ := gdN h
  obtain ⟨q2, hq2, h⟩ := bindN h
  refine zz_callVk (As := [.int (giM M 5006 (Int32.toNatClampNeg (i + 1)))]) C ddW_law_657 wd_636 my_A_held mv_A_held ⟨_, rfl, rfl⟩ (xA_held hG (d - 1) (by omega) hq2) (by omega) h3 rfl rfl (Nat.le_of_ble_eq_true rfl) hkn ?_
  refine zz_aload_n C 2 ddW_law_660 rfl rfl ?_
  refine zz_aload_n C 0 ddW_law_661 rfl rfl ?_
  refine zz_iload C 4 ddW_law_662 rfl ?_
  refine zz_iconst (v := 1) C ddW_law_664 (by decide) ?_
  refine zz_iadd C ddW_law_665 ?_
  obtain ⟨h4, h⟩ := gdN h
  refine zz_iaload C ddW_law_666 h4 ?_
  obtain ⟨h6, h⟩ := gdN h
  obtain ⟨q5, hq5, h⟩ := bindN h
  refine zz_callVk (As := [.int (giM q2.2 5006 (Int32.toNatClampNeg (i + 1)))]) C ddW_law_667 wd_1439 my_M_held mv_M_held ⟨_, rfl, rfl⟩ (xM_held hG (d - 1) (by omega) hq5) (by omega) h6 rfl rfl (Nat.le_of_ble_eq_true rfl) hkn ?_
  refine zz_icmp_eq (tgt := 1451) C ddW_law_670 rfl (fun hc => ?_) (fun hc => ?_)
  · replace h := iteT h hc
    obtain rfl := Option.some.inj h
    exact kk
  · replace h := iteF h hc
    refine zz_iconst (v := 0) C ddW_law_673 (by decide) ?_
    cases h
set_option maxHeartbeats 2000000 in
theorem zW_12 {G : GXM} {X : CxM} (hG : GokM G) (C : CoM G X code "HomeFreedLaw") (N : mLM X = 7) {d : Nat} (hD : dpM X = d) (hd : 90 ≤ d) {i : Int32} {M M1 : Mem} {k n : Nat} (hkn : k ≤ X.2.2.2.1.cells ∧ n ≤ X.2.2.2.1.slots) (h : fW_12 i M = some M1) (kk : ZM G X 1451 [(0, .ref 5006), (1, .ref 1), (2, .ref 1003), (3, .ref 1021), (4, .int i)] [] M1 (k) (n)) : ZM G X 675 [(0, .ref 5006), (1, .ref 1), (2, .ref 1003), (3, .ref 1021), (4, .int i)] [] M k n := by
  unfold fW_12 at h
  refine zz_aload_n C 1 ddW_law_675 rfl rfl ?_
  refine zz_aload_n C 0 ddW_law_676 rfl rfl ?_
  refine zz_iload C 4 ddW_law_677 rfl ?_
  refine zz_iconst (v := 1) C ddW_law_679 (by decide) ?_
  refine zz_iadd C ddW_law_680 ?_
  obtain ⟨h1, h⟩ := gdN h
  refine zz_iaload C ddW_law_681 h1 ?_
  refine zz_aload_n C 0 ddW_law_682 rfl rfl ?_
  refine zz_iload C 4 ddW_law_683 rfl ?_
  refine zz_iconst (v := 2) C ddW_law_685 (by decide) ?_
  refine zz_iadd C ddW_law_686 ?_
  obtain ⟨h2, h⟩ := gdN h
  refine zz_iaload C ddW_law_687 h2 ?_
  obtain ⟨h4, h⟩ := gdN h
  obtain ⟨q3, hq3, h⟩ := bindN h
  refine zz_callVk (As := [.int (giM M 5006 (Int32.toNatClampNeg (i + 1))), .int (giM M 5006 (Int32.toNatClampNeg (i + 2)))]) C ddW_law_688 wd_653 my_A_get mv_A_get ⟨_, rfl, rfl⟩ (xA_get hG (d - 1) (by omega) hq3) (by omega) h4 rfl rfl (Nat.le_of_ble_eq_true rfl) hkn ?_
  refine zz_aload_n C 2 ddW_law_691 rfl rfl ?_
  refine zz_aload_n C 0 ddW_law_692 rfl rfl ?_
  refine zz_iload C 4 ddW_law_693 rfl ?_
  refine zz_iconst (v := 1) C ddW_law_695 (by decide) ?_
  refine zz_iadd C ddW_law_696 ?_
  obtain ⟨h5, h⟩ := gdN h
  refine zz_iaload C ddW_law_697 h5 ?_
  refine zz_aload_n C 0 ddW_law_698 rfl rfl ?_
  refine zz_iload C 4 ddW_law_699 rfl ?_
  refine zz_iconst (v := 2) C ddW_law_701 (by decide) ?_
  refine zz_iadd C ddW_law_702 ?_
  obtain ⟨h6, h⟩ := gdN h
  refine zz_iaload C ddW_law_703 h6 ?_
  obtain ⟨h8, h⟩ := gdN h
  obtain ⟨q7, hq7, h⟩ := bindN h
  refine zz_callVk (As := [.int (giM q3.2 5006 (Int32.toNatClampNeg (i + 1))), .int (giM q3.2 5006 (Int32.toNatClampNeg (i + 2)))]) C ddW_law_704 wd_1451 my_M_get mv_M_get ⟨_, rfl, rfl⟩ (xM_get hG (d - 1) (by omega) hq7) (by omega) h8 rfl rfl (Nat.le_of_ble_eq_true rfl) hkn ?_
  refine zz_icmp_eq (tgt := 1451) C ddW_law_707 rfl (fun hc => ?_) (fun hc => ?_)
  · replace h := iteT h hc
    obtain rfl := Option.some.inj h
    exact kk
  · replace h := iteF h hc
    refine zz_iconst (v := 0) C ddW_law_710 (by decide) ?_
    cases h
set_option maxHeartbeats 2000000 in
theorem zW_13 {G : GXM} {X : CxM} (hG : GokM G) (C : CoM G X code "HomeFreedLaw") (N : mLM X = 7) {d : Nat} (hD : dpM X = d) (hd : 90 ≤ d) {i : Int32} {M M1 : Mem} {k n : Nat} (hkn : k ≤ X.2.2.2.1.cells ∧ n ≤ X.2.2.2.1.slots) (h : fW_13 i M = some M1) (kk : ZM G X 1451 [(0, .ref 5006), (1, .ref 1), (2, .ref 1003), (3, .ref 1021), (4, .int i)] [] M1 (k) (n)) : ZM G X 712 [(0, .ref 5006), (1, .ref 1), (2, .ref 1003), (3, .ref 1021), (4, .int i)] [] M k n := by
  unfold fW_13 at h
  refine zz_aload_n C 1 ddW_law_712 rfl rfl ?_
  refine zz_aload_n C 0 ddW_law_713 rfl rfl ?_
  refine zz_iload C 4 ddW_law_714 rfl ?_
  refine zz_iconst (v := 1) C ddW_law_716 (by decide) ?_
  refine zz_iadd C ddW_law_717 ?_
  obtain ⟨h1, h⟩ := gdN h
  refine zz_iaload C ddW_law_718 h1 ?_
  refine zz_aload_n C 0 ddW_law_719 rfl rfl ?_
  refine zz_iload C 4 ddW_law_720 rfl ?_
  refine zz_iconst (v := 2) C ddW_law_722 (by decide) ?_
  refine zz_iadd C ddW_law_723 ?_
  obtain ⟨h2, h⟩ := gdN h
  refine zz_iaload C ddW_law_724 h2 ?_
  obtain ⟨h4, h⟩ := gdN h
  obtain ⟨q3, hq3, h⟩ := bindN h
  refine zz_callVk (As := [.int (giM M 5006 (Int32.toNatClampNeg (i + 1))), .int (giM M 5006 (Int32.toNatClampNeg (i + 2)))]) C ddW_law_725 wd_774 my_A_free mv_A_free ⟨_, rfl, rfl⟩ (xA_free hG (d - 1) (by omega) hq3) (by omega) h4 rfl rfl (Nat.le_of_ble_eq_true rfl) hkn ?_
  refine zz_aload_n C 2 ddW_law_728 rfl rfl ?_
  refine zz_aload_n C 0 ddW_law_729 rfl rfl ?_
  refine zz_iload C 4 ddW_law_730 rfl ?_
  refine zz_iconst (v := 1) C ddW_law_732 (by decide) ?_
  refine zz_iadd C ddW_law_733 ?_
  obtain ⟨h5, h⟩ := gdN h
  refine zz_iaload C ddW_law_734 h5 ?_
  refine zz_aload_n C 0 ddW_law_735 rfl rfl ?_
  refine zz_iload C 4 ddW_law_736 rfl ?_
  refine zz_iconst (v := 2) C ddW_law_738 (by decide) ?_
  refine zz_iadd C ddW_law_739 ?_
  obtain ⟨h6, h⟩ := gdN h
  refine zz_iaload C ddW_law_740 h6 ?_
  obtain ⟨h8, h⟩ := gdN h
  obtain ⟨q7, hq7, h⟩ := bindN h
  refine zz_callVk (As := [.int (giM q3.2 5006 (Int32.toNatClampNeg (i + 1))), .int (giM q3.2 5006 (Int32.toNatClampNeg (i + 2)))]) C ddW_law_741 wd_1559 my_M_free mv_M_free ⟨_, rfl, rfl⟩ (xM_free hG (d - 1) (by omega) hq7) (by omega) h8 rfl rfl (Nat.le_of_ble_eq_true rfl) hkn ?_
  refine zz_icmp_eq (tgt := 1451) C ddW_law_744 rfl (fun hc => ?_) (fun hc => ?_)
  · replace h := iteT h hc
    obtain rfl := Option.some.inj h
    exact kk
  · replace h := iteF h hc
    refine zz_iconst (v := 0) C ddW_law_747 (by decide) ?_
    cases h
set_option maxHeartbeats 2000000 in
theorem zW_14 {G : GXM} {X : CxM} (hG : GokM G) (C : CoM G X code "HomeFreedLaw") (N : mLM X = 7) {d : Nat} (hD : dpM X = d) (hd : 90 ≤ d) {i : Int32} {M M1 : Mem} {k n : Nat} (hkn : k ≤ X.2.2.2.1.cells ∧ n ≤ X.2.2.2.1.slots) (h : fW_14 i M = some M1) (kk : ZM G X 1451 [(0, .ref 5006), (1, .ref 1), (2, .ref 1003), (3, .ref 1021), (4, .int i)] [] M1 (k) (n)) : ZM G X 749 [(0, .ref 5006), (1, .ref 1), (2, .ref 1003), (3, .ref 1021), (4, .int i)] [] M k n := by
  unfold fW_14 at h
  refine zz_aload_n C 1 ddW_law_749 rfl rfl ?_
  refine zz_aload_n C 0 ddW_law_750 rfl rfl ?_
  refine zz_iload C 4 ddW_law_751 rfl ?_
  refine zz_iconst (v := 1) C ddW_law_753 (by decide) ?_
  refine zz_iadd C ddW_law_754 ?_
  obtain ⟨h1, h⟩ := gdN h
  refine zz_iaload C ddW_law_755 h1 ?_
  obtain ⟨h3, h⟩ := gdN h
  obtain ⟨q2, hq2, h⟩ := bindN h
  refine zz_callVk (As := [.int (giM M 5006 (Int32.toNatClampNeg (i + 1)))]) C ddW_law_756 wd_783 my_A_tick mv_A_tick ⟨_, rfl, rfl⟩ (xA_tick hG (d - 1) (by omega) hq2) (by omega) h3 rfl rfl (Nat.le_of_ble_eq_true rfl) hkn ?_
  refine zz_aload_n C 2 ddW_law_759 rfl rfl ?_
  refine zz_aload_n C 0 ddW_law_760 rfl rfl ?_
  refine zz_iload C 4 ddW_law_761 rfl ?_
  refine zz_iconst (v := 1) C ddW_law_763 (by decide) ?_
  refine zz_iadd C ddW_law_764 ?_
  obtain ⟨h4, h⟩ := gdN h
  refine zz_iaload C ddW_law_765 h4 ?_
  obtain ⟨h6, h⟩ := gdN h
  obtain ⟨q5, hq5, h⟩ := bindN h
  refine zz_callVk (As := [.int (giM q2.2 5006 (Int32.toNatClampNeg (i + 1)))]) C ddW_law_766 wd_1567 my_M_tick mv_M_tick ⟨_, rfl, rfl⟩ (xM_tick hG (d - 1) (by omega) hq5) (by omega) h6 rfl rfl (Nat.le_of_ble_eq_true rfl) hkn ?_
  refine zz_icmp_eq (tgt := 1451) C ddW_law_769 rfl (fun hc => ?_) (fun hc => ?_)
  · replace h := iteT h hc
    obtain rfl := Option.some.inj h
    exact kk
  · replace h := iteF h hc
    refine zz_iconst (v := 0) C ddW_law_772 (by decide) ?_
    cases h
set_option maxHeartbeats 2000000 in
theorem zW_15 {G : GXM} {X : CxM} (hG : GokM G) (C : CoM G X code "HomeFreedLaw") (N : mLM X = 7) {d : Nat} (hD : dpM X = d) (hd : 90 ≤ d) {i : Int32} {M M1 : Mem} {k n : Nat} (hkn : k ≤ X.2.2.2.1.cells ∧ n ≤ X.2.2.2.1.slots) (h : fW_15 i M = some M1) (kk : ZM G X 1451 [(0, .ref 5006), (1, .ref 1), (2, .ref 1003), (3, .ref 1021), (4, .int i)] [] M1 (k) (n)) : ZM G X 774 [(0, .ref 5006), (1, .ref 1), (2, .ref 1003), (3, .ref 1021), (4, .int i)] [] M k n := by
  unfold fW_15 at h
  refine zz_aload_n C 1 ddW_law_774 rfl rfl ?_
  refine zz_aload_n C 0 ddW_law_775 rfl rfl ?_
  refine zz_iload C 4 ddW_law_776 rfl ?_
  refine zz_iconst (v := 1) C ddW_law_778 (by decide) ?_
  refine zz_iadd C ddW_law_779 ?_
  obtain ⟨h1, h⟩ := gdN h
  refine zz_iaload C ddW_law_780 h1 ?_
  obtain ⟨h3, h⟩ := gdN h
  obtain ⟨q2, hq2, h⟩ := bindN h
  refine zz_callVk (As := [.int (giM M 5006 (Int32.toNatClampNeg (i + 1)))]) C ddW_law_781 wd_792 my_A_send mv_A_send ⟨_, rfl, rfl⟩ (xA_send hG (d - 1) (by omega) hq2) (by omega) h3 rfl rfl (Nat.le_of_ble_eq_true rfl) hkn ?_
  refine zz_aload_n C 2 ddW_law_784 rfl rfl ?_
  refine zz_aload_n C 0 ddW_law_785 rfl rfl ?_
  refine zz_iload C 4 ddW_law_786 rfl ?_
  refine zz_iconst (v := 1) C ddW_law_788 (by decide) ?_
  refine zz_iadd C ddW_law_789 ?_
  obtain ⟨h4, h⟩ := gdN h
  refine zz_iaload C ddW_law_790 h4 ?_
  obtain ⟨h6, h⟩ := gdN h
  obtain ⟨q5, hq5, h⟩ := bindN h
  refine zz_callVk (As := [.int (giM q2.2 5006 (Int32.toNatClampNeg (i + 1)))]) C ddW_law_791 wd_1571 my_M_send mv_M_send ⟨_, rfl, rfl⟩ (xM_send hG (d - 1) (by omega) hq5) (by omega) h6 rfl rfl (Nat.le_of_ble_eq_true rfl) hkn ?_
  refine zz_icmp_eq (tgt := 1451) C ddW_law_794 rfl (fun hc => ?_) (fun hc => ?_)
  · replace h := iteT h hc
    obtain rfl := Option.some.inj h
    exact kk
  · replace h := iteF h hc
    refine zz_iconst (v := 0) C ddW_law_797 (by decide) ?_
    cases h
set_option maxHeartbeats 2000000 in
theorem zW_16 {G : GXM} {X : CxM} (hG : GokM G) (C : CoM G X code "HomeFreedLaw") (N : mLM X = 7) {d : Nat} (hD : dpM X = d) (hd : 90 ≤ d) {i : Int32} {M M1 : Mem} {k n : Nat} (hkn : k ≤ X.2.2.2.1.cells ∧ n ≤ X.2.2.2.1.slots) (h : fW_16 i M = some M1) (kk : ZM G X 1451 [(0, .ref 5006), (1, .ref 1), (2, .ref 1003), (3, .ref 1021), (4, .int i)] [] M1 (k) (n)) : ZM G X 799 [(0, .ref 5006), (1, .ref 1), (2, .ref 1003), (3, .ref 1021), (4, .int i)] [] M k n := by
  unfold fW_16 at h
  refine zz_aload_n C 1 ddW_law_799 rfl rfl ?_
  refine zz_aload_n C 0 ddW_law_800 rfl rfl ?_
  refine zz_iload C 4 ddW_law_801 rfl ?_
  refine zz_iconst (v := 1) C ddW_law_803 (by decide) ?_
  refine zz_iadd C ddW_law_804 ?_
  obtain ⟨h1, h⟩ := gdN h
  refine zz_iaload C ddW_law_805 h1 ?_
  obtain ⟨h3, h⟩ := gdN h
  obtain ⟨q2, hq2, h⟩ := bindN h
  refine zz_callVk (As := [.int (giM M 5006 (Int32.toNatClampNeg (i + 1)))]) C ddW_law_806 wd_800 my_A_turn mv_A_turn ⟨_, rfl, rfl⟩ (xA_turn hG (d - 1) (by omega) hq2) (by omega) h3 rfl rfl (Nat.le_of_ble_eq_true rfl) hkn ?_
  refine zz_aload_n C 2 ddW_law_809 rfl rfl ?_
  refine zz_aload_n C 0 ddW_law_810 rfl rfl ?_
  refine zz_iload C 4 ddW_law_811 rfl ?_
  refine zz_iconst (v := 1) C ddW_law_813 (by decide) ?_
  refine zz_iadd C ddW_law_814 ?_
  obtain ⟨h4, h⟩ := gdN h
  refine zz_iaload C ddW_law_815 h4 ?_
  obtain ⟨h6, h⟩ := gdN h
  obtain ⟨q5, hq5, h⟩ := bindN h
  refine zz_callVk (As := [.int (giM q2.2 5006 (Int32.toNatClampNeg (i + 1)))]) C ddW_law_816 wd_1575 my_M_turn mv_M_turn ⟨_, rfl, rfl⟩ (xM_turn hG (d - 1) (by omega) hq5) (by omega) h6 rfl rfl (Nat.le_of_ble_eq_true rfl) hkn ?_
  refine zz_icmp_eq (tgt := 1451) C ddW_law_819 rfl (fun hc => ?_) (fun hc => ?_)
  · replace h := iteT h hc
    obtain rfl := Option.some.inj h
    exact kk
  · replace h := iteF h hc
    refine zz_iconst (v := 0) C ddW_law_822 (by decide) ?_
    cases h
set_option maxHeartbeats 2000000 in
theorem zW_17 {G : GXM} {X : CxM} (hG : GokM G) (C : CoM G X code "HomeFreedLaw") (N : mLM X = 7) {d : Nat} (hD : dpM X = d) (hd : 90 ≤ d) {i : Int32} {M M1 : Mem} {k n : Nat} (hkn : k ≤ X.2.2.2.1.cells ∧ n ≤ X.2.2.2.1.slots) (h : fW_17 i M = some M1) (kk : ZM G X 1451 [(0, .ref 5006), (1, .ref 1), (2, .ref 1003), (3, .ref 1021), (4, .int i)] [] M1 (k) (n)) : ZM G X 824 [(0, .ref 5006), (1, .ref 1), (2, .ref 1003), (3, .ref 1021), (4, .int i)] [] M k n := by
  unfold fW_17 at h
  refine zz_aload_n C 1 ddW_law_824 rfl rfl ?_
  refine zz_aload_n C 0 ddW_law_825 rfl rfl ?_
  refine zz_iload C 4 ddW_law_826 rfl ?_
  refine zz_iconst (v := 1) C ddW_law_828 (by decide) ?_
  refine zz_iadd C ddW_law_829 ?_
  obtain ⟨h1, h⟩ := gdN h
  refine zz_iaload C ddW_law_830 h1 ?_
  obtain ⟨h3, h⟩ := gdN h
  obtain ⟨q2, hq2, h⟩ := bindN h
  refine zz_callVk (As := [.int (giM M 5006 (Int32.toNatClampNeg (i + 1)))]) C ddW_law_831 wd_809 my_A_perform mv_A_perform ⟨_, rfl, rfl⟩ (xA_perform hG (d - 1) (by omega) hq2) (by omega) h3 rfl rfl (Nat.le_of_ble_eq_true rfl) hkn ?_
  refine zz_aload_n C 2 ddW_law_834 rfl rfl ?_
  refine zz_aload_n C 0 ddW_law_835 rfl rfl ?_
  refine zz_iload C 4 ddW_law_836 rfl ?_
  refine zz_iconst (v := 1) C ddW_law_838 (by decide) ?_
  refine zz_iadd C ddW_law_839 ?_
  obtain ⟨h4, h⟩ := gdN h
  refine zz_iaload C ddW_law_840 h4 ?_
  obtain ⟨h6, h⟩ := gdN h
  obtain ⟨q5, hq5, h⟩ := bindN h
  refine zz_callVk (As := [.int (giM q2.2 5006 (Int32.toNatClampNeg (i + 1)))]) C ddW_law_841 wd_1583 my_M_perform mv_M_perform ⟨_, rfl, rfl⟩ (xM_perform hG (d - 1) (by omega) hq5) (by omega) h6 rfl rfl (Nat.le_of_ble_eq_true rfl) hkn ?_
  refine zz_icmp_eq (tgt := 1451) C ddW_law_844 rfl (fun hc => ?_) (fun hc => ?_)
  · replace h := iteT h hc
    obtain rfl := Option.some.inj h
    exact kk
  · replace h := iteF h hc
    refine zz_iconst (v := 0) C ddW_law_847 (by decide) ?_
    cases h
set_option maxHeartbeats 2000000 in
theorem zW_18 {G : GXM} {X : CxM} (hG : GokM G) (C : CoM G X code "HomeFreedLaw") (N : mLM X = 7) {d : Nat} (hD : dpM X = d) (hd : 90 ≤ d) {i : Int32} {M M1 : Mem} {k n : Nat} (hkn : k ≤ X.2.2.2.1.cells ∧ n ≤ X.2.2.2.1.slots) (h : fW_18 i M = some M1) (kk : ZM G X 1451 [(0, .ref 5006), (1, .ref 1), (2, .ref 1003), (3, .ref 1021), (4, .int i)] [] M1 (k) (n)) : ZM G X 849 [(0, .ref 5006), (1, .ref 1), (2, .ref 1003), (3, .ref 1021), (4, .int i)] [] M k n := by
  unfold fW_18 at h
  refine zz_aload_n C 1 ddW_law_849 rfl rfl ?_
  refine zz_aload_n C 0 ddW_law_850 rfl rfl ?_
  refine zz_iload C 4 ddW_law_851 rfl ?_
  refine zz_iconst (v := 1) C ddW_law_853 (by decide) ?_
  refine zz_iadd C ddW_law_854 ?_
  obtain ⟨h1, h⟩ := gdN h
  refine zz_iaload C ddW_law_855 h1 ?_
  refine zz_aload_n C 0 ddW_law_856 rfl rfl ?_
  refine zz_iload C 4 ddW_law_857 rfl ?_
  refine zz_iconst (v := 2) C ddW_law_859 (by decide) ?_
  refine zz_iadd C ddW_law_860 ?_
  obtain ⟨h2, h⟩ := gdN h
  refine zz_iaload C ddW_law_861 h2 ?_
  refine zz_i2l C ddW_law_862 ?_
  refine zz_bipush (v := 32) C ddW_law_863 (by decide) ?_
  refine zz_lshl C ddW_law_865 ?_
  refine zz_aload_n C 0 ddW_law_866 rfl rfl ?_
  refine zz_iload C 4 ddW_law_867 rfl ?_
  refine zz_iconst (v := 3) C ddW_law_869 (by decide) ?_
  refine zz_iadd C ddW_law_870 ?_
  obtain ⟨h3, h⟩ := gdN h
  refine zz_iaload C ddW_law_871 h3 ?_
  refine zz_i2l C ddW_law_872 ?_
  refine zz_ldc2 C ddW_law_873 wd_1784 rfl ?_
  refine zz_land C ddW_law_876 ?_
  refine zz_lor C ddW_law_877 ?_
  obtain ⟨h5, h⟩ := gdN h
  obtain ⟨q4, hq4, h⟩ := bindN h
  refine zz_callVk (As := [.int (giM M 5006 (Int32.toNatClampNeg (i + 1))), .long (((Int32.toInt64 (giM M 5006 (Int32.toNatClampNeg (i + 2)))) <<< (Int32.toInt64 32 &&& 63)) ||| ((Int32.toInt64 (giM M 5006 (Int32.toNatClampNeg (i + 3)))) &&& 4294967295))]) C ddW_law_878 wd_856 my_A_years mv_A_years ⟨_, rfl, rfl⟩ (xA_years hG (d - 1) (by omega) hq4) (by omega) h5 rfl rfl (Nat.le_of_ble_eq_true rfl) hkn ?_
  refine zz_aload_n C 2 ddW_law_881 rfl rfl ?_
  refine zz_aload_n C 0 ddW_law_882 rfl rfl ?_
  refine zz_iload C 4 ddW_law_883 rfl ?_
  refine zz_iconst (v := 1) C ddW_law_885 (by decide) ?_
  refine zz_iadd C ddW_law_886 ?_
  obtain ⟨h6, h⟩ := gdN h
  refine zz_iaload C ddW_law_887 h6 ?_
  refine zz_aload_n C 0 ddW_law_888 rfl rfl ?_
  refine zz_iload C 4 ddW_law_889 rfl ?_
  refine zz_iconst (v := 2) C ddW_law_891 (by decide) ?_
  refine zz_iadd C ddW_law_892 ?_
  obtain ⟨h7, h⟩ := gdN h
  refine zz_iaload C ddW_law_893 h7 ?_
  refine zz_i2l C ddW_law_894 ?_
  refine zz_bipush (v := 32) C ddW_law_895 (by decide) ?_
  refine zz_lshl C ddW_law_897 ?_
  refine zz_aload_n C 0 ddW_law_898 rfl rfl ?_
  refine zz_iload C 4 ddW_law_899 rfl ?_
  refine zz_iconst (v := 3) C ddW_law_901 (by decide) ?_
  refine zz_iadd C ddW_law_902 ?_
  obtain ⟨h8, h⟩ := gdN h
  refine zz_iaload C ddW_law_903 h8 ?_
  refine zz_i2l C ddW_law_904 ?_
  refine zz_ldc2 C ddW_law_905 wd_1784 rfl ?_
  refine zz_land C ddW_law_908 ?_
  refine zz_lor C ddW_law_909 ?_
  obtain ⟨h10, h⟩ := gdN h
  obtain ⟨q9, hq9, h⟩ := bindN h
  refine zz_callVk (As := [.int (giM q4.2 5006 (Int32.toNatClampNeg (i + 1))), .long (((Int32.toInt64 (giM q4.2 5006 (Int32.toNatClampNeg (i + 2)))) <<< (Int32.toInt64 32 &&& 63)) ||| ((Int32.toInt64 (giM q4.2 5006 (Int32.toNatClampNeg (i + 3)))) &&& 4294967295))]) C ddW_law_910 wd_1619 my_M_years mv_M_years ⟨_, rfl, rfl⟩ (xM_years hG (d - 1) (by omega) hq9) (by omega) h10 rfl rfl (Nat.le_of_ble_eq_true rfl) hkn ?_
  refine zz_icmp_eq (tgt := 1451) C ddW_law_913 rfl (fun hc => ?_) (fun hc => ?_)
  · replace h := iteT h hc
    obtain rfl := Option.some.inj h
    exact kk
  · replace h := iteF h hc
    refine zz_iconst (v := 0) C ddW_law_916 (by decide) ?_
    cases h
set_option maxHeartbeats 2000000 in
theorem zW_19 {G : GXM} {X : CxM} (hG : GokM G) (C : CoM G X code "HomeFreedLaw") (N : mLM X = 7) {d : Nat} (hD : dpM X = d) (hd : 90 ≤ d) {i : Int32} {M M1 : Mem} {k n : Nat} (hkn : k ≤ X.2.2.2.1.cells ∧ n ≤ X.2.2.2.1.slots) (h : fW_19 i M = some M1) (kk : ZM G X 1451 [(0, .ref 5006), (1, .ref 1), (2, .ref 1003), (3, .ref 1021), (4, .int i)] [] M1 (k) (n)) : ZM G X 918 [(0, .ref 5006), (1, .ref 1), (2, .ref 1003), (3, .ref 1021), (4, .int i)] [] M k n := by
  unfold fW_19 at h
  refine zz_aload_n C 1 ddW_law_918 rfl rfl ?_
  refine zz_aload_n C 0 ddW_law_919 rfl rfl ?_
  refine zz_iload C 4 ddW_law_920 rfl ?_
  refine zz_iconst (v := 1) C ddW_law_922 (by decide) ?_
  refine zz_iadd C ddW_law_923 ?_
  obtain ⟨h1, h⟩ := gdN h
  refine zz_iaload C ddW_law_924 h1 ?_
  obtain ⟨h3, h⟩ := gdN h
  obtain ⟨q2, hq2, h⟩ := bindN h
  refine zz_callVk (As := [.int (giM M 5006 (Int32.toNatClampNeg (i + 1)))]) C ddW_law_925 wd_884 my_A_status mv_A_status ⟨_, rfl, rfl⟩ (xA_status hG (d - 1) (by omega) hq2) (by omega) h3 rfl rfl (Nat.le_of_ble_eq_true rfl) hkn ?_
  refine zz_aload_n C 2 ddW_law_928 rfl rfl ?_
  refine zz_aload_n C 0 ddW_law_929 rfl rfl ?_
  refine zz_iload C 4 ddW_law_930 rfl ?_
  refine zz_iconst (v := 1) C ddW_law_932 (by decide) ?_
  refine zz_iadd C ddW_law_933 ?_
  obtain ⟨h4, h⟩ := gdN h
  refine zz_iaload C ddW_law_934 h4 ?_
  obtain ⟨h6, h⟩ := gdN h
  obtain ⟨q5, hq5, h⟩ := bindN h
  refine zz_callVk (As := [.int (giM q2.2 5006 (Int32.toNatClampNeg (i + 1)))]) C ddW_law_935 wd_1641 my_M_status mv_M_status ⟨_, rfl, rfl⟩ (xM_status hG (d - 1) (by omega) hq5) (by omega) h6 rfl rfl (Nat.le_of_ble_eq_true rfl) hkn ?_
  refine zz_icmp_eq (tgt := 1451) C ddW_law_938 rfl (fun hc => ?_) (fun hc => ?_)
  · replace h := iteT h hc
    obtain rfl := Option.some.inj h
    exact kk
  · replace h := iteF h hc
    refine zz_iconst (v := 0) C ddW_law_941 (by decide) ?_
    cases h
set_option maxHeartbeats 2000000 in
theorem zW_20 {G : GXM} {X : CxM} (hG : GokM G) (C : CoM G X code "HomeFreedLaw") (N : mLM X = 7) {d : Nat} (hD : dpM X = d) (hd : 90 ≤ d) {i : Int32} {M M1 : Mem} {k n : Nat} (hkn : k ≤ X.2.2.2.1.cells ∧ n ≤ X.2.2.2.1.slots) (h : fW_20 i M = some M1) (kk : ZM G X 1451 [(0, .ref 5006), (1, .ref 1), (2, .ref 1003), (3, .ref 1021), (4, .int i)] [] M1 (k) (n)) : ZM G X 943 [(0, .ref 5006), (1, .ref 1), (2, .ref 1003), (3, .ref 1021), (4, .int i)] [] M k n := by
  unfold fW_20 at h
  refine zz_aload_n C 1 ddW_law_943 rfl rfl ?_
  obtain ⟨h2, h⟩ := gdN h
  obtain ⟨q1, hq1, h⟩ := bindN h
  refine zz_callVk (As := []) C ddW_law_944 wd_888 my_A_undo mv_A_undo ⟨_, rfl, rfl⟩ (xA_undo hG (d - 1) (by omega) hq1) (by omega) h2 rfl rfl (Nat.le_of_ble_eq_true rfl) hkn ?_
  refine zz_aload_n C 2 ddW_law_947 rfl rfl ?_
  obtain ⟨h4, h⟩ := gdN h
  obtain ⟨q3, hq3, h⟩ := bindN h
  refine zz_callVk (As := []) C ddW_law_948 wd_1645 my_M_undo mv_M_undo ⟨_, rfl, rfl⟩ (xM_undo hG (d - 1) (by omega) hq3) (by omega) h4 rfl rfl (Nat.le_of_ble_eq_true rfl) hkn ?_
  refine zz_icmp_eq (tgt := 1451) C ddW_law_951 rfl (fun hc => ?_) (fun hc => ?_)
  · replace h := iteT h hc
    obtain rfl := Option.some.inj h
    exact kk
  · replace h := iteF h hc
    refine zz_iconst (v := 0) C ddW_law_954 (by decide) ?_
    cases h
set_option maxHeartbeats 2000000 in
theorem zW_21 {G : GXM} {X : CxM} (hG : GokM G) (C : CoM G X code "HomeFreedLaw") (N : mLM X = 7) {d : Nat} (hD : dpM X = d) (hd : 90 ≤ d) {i : Int32} {M M1 : Mem} {k n : Nat} (hkn : k ≤ X.2.2.2.1.cells ∧ n ≤ X.2.2.2.1.slots) (h : fW_21 i M = some M1) (kk : ZM G X 1451 [(0, .ref 5006), (1, .ref 1), (2, .ref 1003), (3, .ref 1021), (4, .int i)] [] M1 (k) (n)) : ZM G X 956 [(0, .ref 5006), (1, .ref 1), (2, .ref 1003), (3, .ref 1021), (4, .int i)] [] M k n := by
  unfold fW_21 at h
  refine zz_aload_n C 1 ddW_law_956 rfl rfl ?_
  refine zz_aload_n C 0 ddW_law_957 rfl rfl ?_
  refine zz_iload C 4 ddW_law_958 rfl ?_
  refine zz_iconst (v := 1) C ddW_law_960 (by decide) ?_
  refine zz_iadd C ddW_law_961 ?_
  obtain ⟨h1, h⟩ := gdN h
  refine zz_iaload C ddW_law_962 h1 ?_
  refine zz_aload_n C 0 ddW_law_963 rfl rfl ?_
  refine zz_iload C 4 ddW_law_964 rfl ?_
  refine zz_iconst (v := 2) C ddW_law_966 (by decide) ?_
  refine zz_iadd C ddW_law_967 ?_
  obtain ⟨h2, h⟩ := gdN h
  refine zz_iaload C ddW_law_968 h2 ?_
  obtain ⟨h4, h⟩ := gdN h
  obtain ⟨q3, hq3, h⟩ := bindN h
  refine zz_callVk (As := [.int (giM M 5006 (Int32.toNatClampNeg (i + 1))), .int (giM M 5006 (Int32.toNatClampNeg (i + 2)))]) C ddW_law_969 wd_896 my_A_log mv_A_log ⟨_, rfl, rfl⟩ (xA_log hG (d - 1) (by omega) hq3) (by omega) h4 rfl rfl (Nat.le_of_ble_eq_true rfl) hkn ?_
  refine zz_aload_n C 2 ddW_law_972 rfl rfl ?_
  refine zz_aload_n C 0 ddW_law_973 rfl rfl ?_
  refine zz_iload C 4 ddW_law_974 rfl ?_
  refine zz_iconst (v := 1) C ddW_law_976 (by decide) ?_
  refine zz_iadd C ddW_law_977 ?_
  obtain ⟨h5, h⟩ := gdN h
  refine zz_iaload C ddW_law_978 h5 ?_
  refine zz_aload_n C 0 ddW_law_979 rfl rfl ?_
  refine zz_iload C 4 ddW_law_980 rfl ?_
  refine zz_iconst (v := 2) C ddW_law_982 (by decide) ?_
  refine zz_iadd C ddW_law_983 ?_
  obtain ⟨h6, h⟩ := gdN h
  refine zz_iaload C ddW_law_984 h6 ?_
  obtain ⟨h8, h⟩ := gdN h
  obtain ⟨q7, hq7, h⟩ := bindN h
  refine zz_callVk (As := [.int (giM q3.2 5006 (Int32.toNatClampNeg (i + 1))), .int (giM q3.2 5006 (Int32.toNatClampNeg (i + 2)))]) C ddW_law_985 wd_1649 my_M_log mv_M_log ⟨_, rfl, rfl⟩ (xM_log hG (d - 1) (by omega) hq7) (by omega) h8 rfl rfl (Nat.le_of_ble_eq_true rfl) hkn ?_
  refine zz_icmp_eq (tgt := 1451) C ddW_law_988 rfl (fun hc => ?_) (fun hc => ?_)
  · replace h := iteT h hc
    obtain rfl := Option.some.inj h
    exact kk
  · replace h := iteF h hc
    refine zz_iconst (v := 0) C ddW_law_991 (by decide) ?_
    cases h
set_option maxHeartbeats 2000000 in
theorem zW_22 {G : GXM} {X : CxM} (hG : GokM G) (C : CoM G X code "HomeFreedLaw") (N : mLM X = 7) {d : Nat} (hD : dpM X = d) (hd : 90 ≤ d) {i : Int32} {M M1 : Mem} {k n : Nat} (hkn : k ≤ X.2.2.2.1.cells ∧ n ≤ X.2.2.2.1.slots) (h : fW_22 i M = some M1) (kk : ZM G X 1451 [(0, .ref 5006), (1, .ref 1), (2, .ref 1003), (3, .ref 1021), (4, .int i)] [] M1 (k) (n)) : ZM G X 993 [(0, .ref 5006), (1, .ref 1), (2, .ref 1003), (3, .ref 1021), (4, .int i)] [] M k n := by
  unfold fW_22 at h
  refine zz_aload_n C 1 ddW_law_993 rfl rfl ?_
  refine zz_aload_n C 0 ddW_law_994 rfl rfl ?_
  refine zz_iload C 4 ddW_law_995 rfl ?_
  refine zz_iconst (v := 1) C ddW_law_997 (by decide) ?_
  refine zz_iadd C ddW_law_998 ?_
  obtain ⟨h1, h⟩ := gdN h
  refine zz_iaload C ddW_law_999 h1 ?_
  refine zz_aload_n C 0 ddW_law_1000 rfl rfl ?_
  refine zz_iload C 4 ddW_law_1001 rfl ?_
  refine zz_iconst (v := 2) C ddW_law_1003 (by decide) ?_
  refine zz_iadd C ddW_law_1004 ?_
  obtain ⟨h2, h⟩ := gdN h
  refine zz_iaload C ddW_law_1005 h2 ?_
  refine zz_aload_n C 0 ddW_law_1006 rfl rfl ?_
  refine zz_iload C 4 ddW_law_1007 rfl ?_
  refine zz_iconst (v := 3) C ddW_law_1009 (by decide) ?_
  refine zz_iadd C ddW_law_1010 ?_
  obtain ⟨h3, h⟩ := gdN h
  refine zz_iaload C ddW_law_1011 h3 ?_
  obtain ⟨h5, h⟩ := gdN h
  obtain ⟨q4, hq4, h⟩ := bindN h
  refine zz_callVk (As := [.int (giM M 5006 (Int32.toNatClampNeg (i + 1))), .int (giM M 5006 (Int32.toNatClampNeg (i + 2))), .int (giM M 5006 (Int32.toNatClampNeg (i + 3)))]) C ddW_law_1012 wd_921 my_A_step mv_A_step ⟨_, rfl, rfl⟩ (xA_step hG (d - 1) (by omega) hq4) (by omega) h5 rfl rfl (Nat.le_of_ble_eq_true rfl) hkn ?_
  refine zz_aload_n C 2 ddW_law_1015 rfl rfl ?_
  refine zz_aload_n C 0 ddW_law_1016 rfl rfl ?_
  refine zz_iload C 4 ddW_law_1017 rfl ?_
  refine zz_iconst (v := 1) C ddW_law_1019 (by decide) ?_
  refine zz_iadd C ddW_law_1020 ?_
  obtain ⟨h6, h⟩ := gdN h
  refine zz_iaload C ddW_law_1021 h6 ?_
  refine zz_aload_n C 0 ddW_law_1022 rfl rfl ?_
  refine zz_iload C 4 ddW_law_1023 rfl ?_
  refine zz_iconst (v := 2) C ddW_law_1025 (by decide) ?_
  refine zz_iadd C ddW_law_1026 ?_
  obtain ⟨h7, h⟩ := gdN h
  refine zz_iaload C ddW_law_1027 h7 ?_
  refine zz_aload_n C 0 ddW_law_1028 rfl rfl ?_
  refine zz_iload C 4 ddW_law_1029 rfl ?_
  refine zz_iconst (v := 3) C ddW_law_1031 (by decide) ?_
  refine zz_iadd C ddW_law_1032 ?_
  obtain ⟨h8, h⟩ := gdN h
  refine zz_iaload C ddW_law_1033 h8 ?_
  obtain ⟨h10, h⟩ := gdN h
  obtain ⟨q9, hq9, h⟩ := bindN h
  refine zz_callVk (As := [.int (giM q4.2 5006 (Int32.toNatClampNeg (i + 1))), .int (giM q4.2 5006 (Int32.toNatClampNeg (i + 2))), .int (giM q4.2 5006 (Int32.toNatClampNeg (i + 3)))]) C ddW_law_1034 wd_1653 my_M_step mv_M_step ⟨_, rfl, rfl⟩ (xM_step hG (d - 1) (by omega) hq9) (by omega) h10 rfl rfl (Nat.le_of_ble_eq_true rfl) hkn ?_
  refine zz_icmp_eq (tgt := 1451) C ddW_law_1037 rfl (fun hc => ?_) (fun hc => ?_)
  · replace h := iteT h hc
    obtain rfl := Option.some.inj h
    exact kk
  · replace h := iteF h hc
    refine zz_iconst (v := 0) C ddW_law_1040 (by decide) ?_
    cases h
set_option maxHeartbeats 2000000 in
theorem zW_23 {G : GXM} {X : CxM} (hG : GokM G) (C : CoM G X code "HomeFreedLaw") (N : mLM X = 7) {d : Nat} (hD : dpM X = d) (hd : 90 ≤ d) {i : Int32} {M M1 : Mem} {k n : Nat} (hkn : k ≤ X.2.2.2.1.cells ∧ n ≤ X.2.2.2.1.slots) (h : fW_23 i M = some M1) (kk : ZM G X 1451 [(0, .ref 5006), (1, .ref 1), (2, .ref 1003), (3, .ref 1021), (4, .int i)] [] M1 (k) (n)) : ZM G X 1042 [(0, .ref 5006), (1, .ref 1), (2, .ref 1003), (3, .ref 1021), (4, .int i)] [] M k n := by
  unfold fW_23 at h
  refine zz_aload_n C 1 ddW_law_1042 rfl rfl ?_
  refine zz_aload_n C 0 ddW_law_1043 rfl rfl ?_
  refine zz_iload C 4 ddW_law_1044 rfl ?_
  refine zz_iconst (v := 1) C ddW_law_1046 (by decide) ?_
  refine zz_iadd C ddW_law_1047 ?_
  obtain ⟨h1, h⟩ := gdN h
  refine zz_iaload C ddW_law_1048 h1 ?_
  obtain ⟨h3, h⟩ := gdN h
  obtain ⟨q2, hq2, h⟩ := bindN h
  refine zz_callVk (As := [.int (giM M 5006 (Int32.toNatClampNeg (i + 1)))]) C ddW_law_1049 wd_926 my_A_waste mv_A_waste ⟨_, rfl, rfl⟩ (xA_waste hG (d - 1) (by omega) hq2) (by omega) h3 rfl rfl (Nat.le_of_ble_eq_true rfl) hkn ?_
  refine zz_aload_n C 2 ddW_law_1052 rfl rfl ?_
  refine zz_aload_n C 0 ddW_law_1053 rfl rfl ?_
  refine zz_iload C 4 ddW_law_1054 rfl ?_
  refine zz_iconst (v := 1) C ddW_law_1056 (by decide) ?_
  refine zz_iadd C ddW_law_1057 ?_
  obtain ⟨h4, h⟩ := gdN h
  refine zz_iaload C ddW_law_1058 h4 ?_
  obtain ⟨h6, h⟩ := gdN h
  obtain ⟨q5, hq5, h⟩ := bindN h
  refine zz_callVk (As := [.int (giM q2.2 5006 (Int32.toNatClampNeg (i + 1)))]) C ddW_law_1059 wd_1658 my_M_waste mv_M_waste ⟨_, rfl, rfl⟩ (xM_waste hG (d - 1) (by omega) hq5) (by omega) h6 rfl rfl (Nat.le_of_ble_eq_true rfl) hkn ?_
  refine zz_icmp_eq (tgt := 1451) C ddW_law_1062 rfl (fun hc => ?_) (fun hc => ?_)
  · replace h := iteT h hc
    obtain rfl := Option.some.inj h
    exact kk
  · replace h := iteF h hc
    refine zz_iconst (v := 0) C ddW_law_1065 (by decide) ?_
    cases h
set_option maxHeartbeats 2000000 in
theorem zW_24 {G : GXM} {X : CxM} (hG : GokM G) (C : CoM G X code "HomeFreedLaw") (N : mLM X = 7) {d : Nat} (hD : dpM X = d) (hd : 90 ≤ d) {i : Int32} {M M1 : Mem} {k n : Nat} (hkn : k ≤ X.2.2.2.1.cells ∧ n ≤ X.2.2.2.1.slots) (h : fW_24 i M = some M1) (kk : ZM G X 1451 [(0, .ref 5006), (1, .ref 1), (2, .ref 1003), (3, .ref 1021), (4, .int i)] [] M1 (k) (n)) : ZM G X 1067 [(0, .ref 5006), (1, .ref 1), (2, .ref 1003), (3, .ref 1021), (4, .int i)] [] M k n := by
  unfold fW_24 at h
  refine zz_aload_n C 1 ddW_law_1067 rfl rfl ?_
  refine zz_aload_n C 0 ddW_law_1068 rfl rfl ?_
  refine zz_iload C 4 ddW_law_1069 rfl ?_
  refine zz_iconst (v := 1) C ddW_law_1071 (by decide) ?_
  refine zz_iadd C ddW_law_1072 ?_
  obtain ⟨h1, h⟩ := gdN h
  refine zz_iaload C ddW_law_1073 h1 ?_
  refine zz_aload_n C 0 ddW_law_1074 rfl rfl ?_
  refine zz_iload C 4 ddW_law_1075 rfl ?_
  refine zz_iconst (v := 2) C ddW_law_1077 (by decide) ?_
  refine zz_iadd C ddW_law_1078 ?_
  obtain ⟨h2, h⟩ := gdN h
  refine zz_iaload C ddW_law_1079 h2 ?_
  obtain ⟨h4, h⟩ := gdN h
  obtain ⟨q3, hq3, h⟩ := bindN h
  refine zz_callVk (As := [.int (giM M 5006 (Int32.toNatClampNeg (i + 1))), .int (giM M 5006 (Int32.toNatClampNeg (i + 2)))]) C ddW_law_1080 wd_935 my_A_classes mv_A_classes ⟨_, rfl, rfl⟩ (xA_classes hG (d - 1) (by omega) hq3) (by omega) h4 rfl rfl (Nat.le_of_ble_eq_true rfl) hkn ?_
  refine zz_aload_n C 2 ddW_law_1083 rfl rfl ?_
  refine zz_aload_n C 0 ddW_law_1084 rfl rfl ?_
  refine zz_iload C 4 ddW_law_1085 rfl ?_
  refine zz_iconst (v := 1) C ddW_law_1087 (by decide) ?_
  refine zz_iadd C ddW_law_1088 ?_
  obtain ⟨h5, h⟩ := gdN h
  refine zz_iaload C ddW_law_1089 h5 ?_
  refine zz_aload_n C 0 ddW_law_1090 rfl rfl ?_
  refine zz_iload C 4 ddW_law_1091 rfl ?_
  refine zz_iconst (v := 2) C ddW_law_1093 (by decide) ?_
  refine zz_iadd C ddW_law_1094 ?_
  obtain ⟨h6, h⟩ := gdN h
  refine zz_iaload C ddW_law_1095 h6 ?_
  obtain ⟨h8, h⟩ := gdN h
  obtain ⟨q7, hq7, h⟩ := bindN h
  refine zz_callVk (As := [.int (giM q3.2 5006 (Int32.toNatClampNeg (i + 1))), .int (giM q3.2 5006 (Int32.toNatClampNeg (i + 2)))]) C ddW_law_1096 wd_1666 my_M_classes mv_M_classes ⟨_, rfl, rfl⟩ (xM_classes hG (d - 1) (by omega) hq7) (by omega) h8 rfl rfl (Nat.le_of_ble_eq_true rfl) hkn ?_
  refine zz_icmp_eq (tgt := 1451) C ddW_law_1099 rfl (fun hc => ?_) (fun hc => ?_)
  · replace h := iteT h hc
    obtain rfl := Option.some.inj h
    exact kk
  · replace h := iteF h hc
    refine zz_iconst (v := 0) C ddW_law_1102 (by decide) ?_
    cases h
set_option maxHeartbeats 2000000 in
theorem zW_25 {G : GXM} {X : CxM} (hG : GokM G) (C : CoM G X code "HomeFreedLaw") (N : mLM X = 7) {d : Nat} (hD : dpM X = d) (hd : 90 ≤ d) {i : Int32} {M M1 : Mem} {k n : Nat} (hkn : k ≤ X.2.2.2.1.cells ∧ n ≤ X.2.2.2.1.slots) (h : fW_25 i M = some M1) (kk : ZM G X 1451 [(0, .ref 5006), (1, .ref 1), (2, .ref 1003), (3, .ref 1021), (4, .int i)] [] M1 (k) (n)) : ZM G X 1104 [(0, .ref 5006), (1, .ref 1), (2, .ref 1003), (3, .ref 1021), (4, .int i)] [] M k n := by
  unfold fW_25 at h
  refine zz_aload_n C 1 ddW_law_1104 rfl rfl ?_
  refine zz_aload_n C 0 ddW_law_1105 rfl rfl ?_
  refine zz_iload C 4 ddW_law_1106 rfl ?_
  refine zz_iconst (v := 1) C ddW_law_1108 (by decide) ?_
  refine zz_iadd C ddW_law_1109 ?_
  obtain ⟨h1, h⟩ := gdN h
  refine zz_iaload C ddW_law_1110 h1 ?_
  refine zz_aload_n C 0 ddW_law_1111 rfl rfl ?_
  refine zz_iload C 4 ddW_law_1112 rfl ?_
  refine zz_iconst (v := 2) C ddW_law_1114 (by decide) ?_
  refine zz_iadd C ddW_law_1115 ?_
  obtain ⟨h2, h⟩ := gdN h
  refine zz_iaload C ddW_law_1116 h2 ?_
  obtain ⟨h4, h⟩ := gdN h
  obtain ⟨q3, hq3, h⟩ := bindN h
  refine zz_callVk (As := [.int (giM M 5006 (Int32.toNatClampNeg (i + 1))), .int (giM M 5006 (Int32.toNatClampNeg (i + 2)))]) C ddW_law_1117 wd_942 my_A_would mv_A_would ⟨_, rfl, rfl⟩ (xA_would hG (d - 1) (by omega) hq3) (by omega) h4 rfl rfl (Nat.le_of_ble_eq_true rfl) hkn ?_
  refine zz_aload_n C 2 ddW_law_1120 rfl rfl ?_
  refine zz_aload_n C 0 ddW_law_1121 rfl rfl ?_
  refine zz_iload C 4 ddW_law_1122 rfl ?_
  refine zz_iconst (v := 1) C ddW_law_1124 (by decide) ?_
  refine zz_iadd C ddW_law_1125 ?_
  obtain ⟨h5, h⟩ := gdN h
  refine zz_iaload C ddW_law_1126 h5 ?_
  refine zz_aload_n C 0 ddW_law_1127 rfl rfl ?_
  refine zz_iload C 4 ddW_law_1128 rfl ?_
  refine zz_iconst (v := 2) C ddW_law_1130 (by decide) ?_
  refine zz_iadd C ddW_law_1131 ?_
  obtain ⟨h6, h⟩ := gdN h
  refine zz_iaload C ddW_law_1132 h6 ?_
  obtain ⟨h8, h⟩ := gdN h
  obtain ⟨q7, hq7, h⟩ := bindN h
  refine zz_callVk (As := [.int (giM q3.2 5006 (Int32.toNatClampNeg (i + 1))), .int (giM q3.2 5006 (Int32.toNatClampNeg (i + 2)))]) C ddW_law_1133 wd_1670 my_M_would mv_M_would ⟨_, rfl, rfl⟩ (xM_would hG (d - 1) (by omega) hq7) (by omega) h8 rfl rfl (Nat.le_of_ble_eq_true rfl) hkn ?_
  refine zz_icmp_eq (tgt := 1451) C ddW_law_1136 rfl (fun hc => ?_) (fun hc => ?_)
  · replace h := iteT h hc
    obtain rfl := Option.some.inj h
    exact kk
  · replace h := iteF h hc
    refine zz_iconst (v := 0) C ddW_law_1139 (by decide) ?_
    cases h
set_option maxHeartbeats 2000000 in
theorem zW_26 {G : GXM} {X : CxM} (hG : GokM G) (C : CoM G X code "HomeFreedLaw") (N : mLM X = 7) {d : Nat} (hD : dpM X = d) (hd : 90 ≤ d) {i : Int32} {M M1 : Mem} {k n : Nat} (hkn : k ≤ X.2.2.2.1.cells ∧ n ≤ X.2.2.2.1.slots) (h : fW_26 i M = some M1) (kk : ZM G X 1451 [(0, .ref 5006), (1, .ref 1), (2, .ref 1003), (3, .ref 1021), (4, .int i)] [] M1 (k) (n)) : ZM G X 1141 [(0, .ref 5006), (1, .ref 1), (2, .ref 1003), (3, .ref 1021), (4, .int i)] [] M k n := by
  unfold fW_26 at h
  refine zz_aload_n C 1 ddW_law_1141 rfl rfl ?_
  refine zz_aload_n C 0 ddW_law_1142 rfl rfl ?_
  refine zz_iload C 4 ddW_law_1143 rfl ?_
  refine zz_iconst (v := 1) C ddW_law_1145 (by decide) ?_
  refine zz_iadd C ddW_law_1146 ?_
  obtain ⟨h1, h⟩ := gdN h
  refine zz_iaload C ddW_law_1147 h1 ?_
  refine zz_aload_n C 0 ddW_law_1148 rfl rfl ?_
  refine zz_iload C 4 ddW_law_1149 rfl ?_
  refine zz_iconst (v := 2) C ddW_law_1151 (by decide) ?_
  refine zz_iadd C ddW_law_1152 ?_
  obtain ⟨h2, h⟩ := gdN h
  refine zz_iaload C ddW_law_1153 h2 ?_
  obtain ⟨h4, h⟩ := gdN h
  obtain ⟨q3, hq3, h⟩ := bindN h
  refine zz_callVk (As := [.int (giM M 5006 (Int32.toNatClampNeg (i + 1))), .int (giM M 5006 (Int32.toNatClampNeg (i + 2)))]) C ddW_law_1154 wd_947 my_A_where mv_A_where ⟨_, rfl, rfl⟩ (xA_where hG (d - 1) (by omega) hq3) (by omega) h4 rfl rfl (Nat.le_of_ble_eq_true rfl) hkn ?_
  refine zz_aload_n C 2 ddW_law_1157 rfl rfl ?_
  refine zz_aload_n C 0 ddW_law_1158 rfl rfl ?_
  refine zz_iload C 4 ddW_law_1159 rfl ?_
  refine zz_iconst (v := 1) C ddW_law_1161 (by decide) ?_
  refine zz_iadd C ddW_law_1162 ?_
  obtain ⟨h5, h⟩ := gdN h
  refine zz_iaload C ddW_law_1163 h5 ?_
  refine zz_aload_n C 0 ddW_law_1164 rfl rfl ?_
  refine zz_iload C 4 ddW_law_1165 rfl ?_
  refine zz_iconst (v := 2) C ddW_law_1167 (by decide) ?_
  refine zz_iadd C ddW_law_1168 ?_
  obtain ⟨h6, h⟩ := gdN h
  refine zz_iaload C ddW_law_1169 h6 ?_
  obtain ⟨h8, h⟩ := gdN h
  obtain ⟨q7, hq7, h⟩ := bindN h
  refine zz_callVk (As := [.int (giM q3.2 5006 (Int32.toNatClampNeg (i + 1))), .int (giM q3.2 5006 (Int32.toNatClampNeg (i + 2)))]) C ddW_law_1170 wd_1682 my_M_where mv_M_where ⟨_, rfl, rfl⟩ (xM_where hG (d - 1) (by omega) hq7) (by omega) h8 rfl rfl (Nat.le_of_ble_eq_true rfl) hkn ?_
  refine zz_icmp_eq (tgt := 1451) C ddW_law_1173 rfl (fun hc => ?_) (fun hc => ?_)
  · replace h := iteT h hc
    obtain rfl := Option.some.inj h
    exact kk
  · replace h := iteF h hc
    refine zz_iconst (v := 0) C ddW_law_1176 (by decide) ?_
    cases h
set_option maxHeartbeats 2000000 in
theorem zW_27 {G : GXM} {X : CxM} (hG : GokM G) (C : CoM G X code "HomeFreedLaw") (N : mLM X = 7) {d : Nat} (hD : dpM X = d) (hd : 90 ≤ d) {i : Int32} {M M1 : Mem} {k n : Nat} (hkn : k ≤ X.2.2.2.1.cells ∧ n ≤ X.2.2.2.1.slots) (h : fW_27 i M = some M1) (kk : ZM G X 1451 [(0, .ref 5006), (1, .ref 1), (2, .ref 1003), (3, .ref 1021), (4, .int i)] [] M1 (k) (n)) : ZM G X 1178 [(0, .ref 5006), (1, .ref 1), (2, .ref 1003), (3, .ref 1021), (4, .int i)] [] M k n := by
  unfold fW_27 at h
  refine zz_aload_n C 1 ddW_law_1178 rfl rfl ?_
  refine zz_aload_n C 0 ddW_law_1179 rfl rfl ?_
  refine zz_iload C 4 ddW_law_1180 rfl ?_
  refine zz_iconst (v := 1) C ddW_law_1182 (by decide) ?_
  refine zz_iadd C ddW_law_1183 ?_
  obtain ⟨h1, h⟩ := gdN h
  refine zz_iaload C ddW_law_1184 h1 ?_
  refine zz_aload_n C 0 ddW_law_1185 rfl rfl ?_
  refine zz_iload C 4 ddW_law_1186 rfl ?_
  refine zz_iconst (v := 2) C ddW_law_1188 (by decide) ?_
  refine zz_iadd C ddW_law_1189 ?_
  obtain ⟨h2, h⟩ := gdN h
  refine zz_iaload C ddW_law_1190 h2 ?_
  refine zz_aload_n C 0 ddW_law_1191 rfl rfl ?_
  refine zz_iload C 4 ddW_law_1192 rfl ?_
  refine zz_iconst (v := 3) C ddW_law_1194 (by decide) ?_
  refine zz_iadd C ddW_law_1195 ?_
  obtain ⟨h3, h⟩ := gdN h
  refine zz_iaload C ddW_law_1196 h3 ?_
  obtain ⟨h5, h⟩ := gdN h
  obtain ⟨q4, hq4, h⟩ := bindN h
  refine zz_callVk (As := [.int (giM M 5006 (Int32.toNatClampNeg (i + 1))), .int (giM M 5006 (Int32.toNatClampNeg (i + 2))), .int (giM M 5006 (Int32.toNatClampNeg (i + 3)))]) C ddW_law_1197 wd_959 my_A_series mv_A_series ⟨_, rfl, rfl⟩ (xA_series hG (d - 1) (by omega) hq4) (by omega) h5 rfl rfl (Nat.le_of_ble_eq_true rfl) hkn ?_
  refine zz_aload_n C 2 ddW_law_1200 rfl rfl ?_
  refine zz_aload_n C 0 ddW_law_1201 rfl rfl ?_
  refine zz_iload C 4 ddW_law_1202 rfl ?_
  refine zz_iconst (v := 1) C ddW_law_1204 (by decide) ?_
  refine zz_iadd C ddW_law_1205 ?_
  obtain ⟨h6, h⟩ := gdN h
  refine zz_iaload C ddW_law_1206 h6 ?_
  refine zz_aload_n C 0 ddW_law_1207 rfl rfl ?_
  refine zz_iload C 4 ddW_law_1208 rfl ?_
  refine zz_iconst (v := 2) C ddW_law_1210 (by decide) ?_
  refine zz_iadd C ddW_law_1211 ?_
  obtain ⟨h7, h⟩ := gdN h
  refine zz_iaload C ddW_law_1212 h7 ?_
  refine zz_aload_n C 0 ddW_law_1213 rfl rfl ?_
  refine zz_iload C 4 ddW_law_1214 rfl ?_
  refine zz_iconst (v := 3) C ddW_law_1216 (by decide) ?_
  refine zz_iadd C ddW_law_1217 ?_
  obtain ⟨h8, h⟩ := gdN h
  refine zz_iaload C ddW_law_1218 h8 ?_
  obtain ⟨h10, h⟩ := gdN h
  obtain ⟨q9, hq9, h⟩ := bindN h
  refine zz_callVk (As := [.int (giM q4.2 5006 (Int32.toNatClampNeg (i + 1))), .int (giM q4.2 5006 (Int32.toNatClampNeg (i + 2))), .int (giM q4.2 5006 (Int32.toNatClampNeg (i + 3)))]) C ddW_law_1219 wd_1690 my_M_series mv_M_series ⟨_, rfl, rfl⟩ (xM_series hG (d - 1) (by omega) hq9) (by omega) h10 rfl rfl (Nat.le_of_ble_eq_true rfl) hkn ?_
  refine zz_icmp_eq (tgt := 1451) C ddW_law_1222 rfl (fun hc => ?_) (fun hc => ?_)
  · replace h := iteT h hc
    obtain rfl := Option.some.inj h
    exact kk
  · replace h := iteF h hc
    refine zz_iconst (v := 0) C ddW_law_1225 (by decide) ?_
    cases h
set_option maxHeartbeats 2000000 in
theorem zW_28 {G : GXM} {X : CxM} (hG : GokM G) (C : CoM G X code "HomeFreedLaw") (N : mLM X = 7) {d : Nat} (hD : dpM X = d) (hd : 90 ≤ d) {i : Int32} {M M1 : Mem} {k n : Nat} (hkn : k ≤ X.2.2.2.1.cells ∧ n ≤ X.2.2.2.1.slots) (h : fW_28 i M = some M1) (kk : ZM G X 1451 [(0, .ref 5006), (1, .ref 1), (2, .ref 1003), (3, .ref 1021), (4, .int i)] [] M1 (k) (n)) : ZM G X 1227 [(0, .ref 5006), (1, .ref 1), (2, .ref 1003), (3, .ref 1021), (4, .int i)] [] M k n := by
  unfold fW_28 at h
  refine zz_aload_n C 1 ddW_law_1227 rfl rfl ?_
  refine zz_aload_n C 0 ddW_law_1228 rfl rfl ?_
  refine zz_iload C 4 ddW_law_1229 rfl ?_
  refine zz_iconst (v := 1) C ddW_law_1231 (by decide) ?_
  refine zz_iadd C ddW_law_1232 ?_
  obtain ⟨h1, h⟩ := gdN h
  refine zz_iaload C ddW_law_1233 h1 ?_
  obtain ⟨h3, h⟩ := gdN h
  obtain ⟨q2, hq2, h⟩ := bindN h
  refine zz_callVk (As := [.int (giM M 5006 (Int32.toNatClampNeg (i + 1)))]) C ddW_law_1234 wd_964 my_A_cheapest mv_A_cheapest ⟨_, rfl, rfl⟩ (xA_cheapest hG (d - 1) (by omega) hq2) (by omega) h3 rfl rfl (Nat.le_of_ble_eq_true rfl) hkn ?_
  refine zz_aload_n C 2 ddW_law_1237 rfl rfl ?_
  refine zz_aload_n C 0 ddW_law_1238 rfl rfl ?_
  refine zz_iload C 4 ddW_law_1239 rfl ?_
  refine zz_iconst (v := 1) C ddW_law_1241 (by decide) ?_
  refine zz_iadd C ddW_law_1242 ?_
  obtain ⟨h4, h⟩ := gdN h
  refine zz_iaload C ddW_law_1243 h4 ?_
  obtain ⟨h6, h⟩ := gdN h
  obtain ⟨q5, hq5, h⟩ := bindN h
  refine zz_callVk (As := [.int (giM q2.2 5006 (Int32.toNatClampNeg (i + 1)))]) C ddW_law_1244 wd_1728 my_M_cheapest mv_M_cheapest ⟨_, rfl, rfl⟩ (xM_cheapest hG (d - 1) (by omega) hq5) (by omega) h6 rfl rfl (Nat.le_of_ble_eq_true rfl) hkn ?_
  refine zz_icmp_eq (tgt := 1451) C ddW_law_1247 rfl (fun hc => ?_) (fun hc => ?_)
  · replace h := iteT h hc
    obtain rfl := Option.some.inj h
    exact kk
  · replace h := iteF h hc
    refine zz_iconst (v := 0) C ddW_law_1250 (by decide) ?_
    cases h
set_option maxHeartbeats 2000000 in
theorem zW_29 {G : GXM} {X : CxM} (hG : GokM G) (C : CoM G X code "HomeFreedLaw") (N : mLM X = 7) {d : Nat} (hD : dpM X = d) (hd : 90 ≤ d) {i : Int32} {M M1 : Mem} {k n : Nat} (hkn : k ≤ X.2.2.2.1.cells ∧ n ≤ X.2.2.2.1.slots) (h : fW_29 i M = some M1) (kk : ZM G X 1451 [(0, .ref 5006), (1, .ref 1), (2, .ref 1003), (3, .ref 1021), (4, .int i)] [] M1 (k) (n)) : ZM G X 1252 [(0, .ref 5006), (1, .ref 1), (2, .ref 1003), (3, .ref 1021), (4, .int i)] [] M k n := by
  unfold fW_29 at h
  refine zz_aload_n C 1 ddW_law_1252 rfl rfl ?_
  refine zz_aload_n C 0 ddW_law_1253 rfl rfl ?_
  refine zz_iload C 4 ddW_law_1254 rfl ?_
  refine zz_iconst (v := 1) C ddW_law_1256 (by decide) ?_
  refine zz_iadd C ddW_law_1257 ?_
  obtain ⟨h1, h⟩ := gdN h
  refine zz_iaload C ddW_law_1258 h1 ?_
  refine zz_aload_n C 0 ddW_law_1259 rfl rfl ?_
  refine zz_iload C 4 ddW_law_1260 rfl ?_
  refine zz_iconst (v := 2) C ddW_law_1262 (by decide) ?_
  refine zz_iadd C ddW_law_1263 ?_
  obtain ⟨h2, h⟩ := gdN h
  refine zz_iaload C ddW_law_1264 h2 ?_
  obtain ⟨h4, h⟩ := gdN h
  obtain ⟨q3, hq3, h⟩ := bindN h
  refine zz_callVk (As := [.int (giM M 5006 (Int32.toNatClampNeg (i + 1))), .int (giM M 5006 (Int32.toNatClampNeg (i + 2)))]) C ddW_law_1265 wd_974 my_A_run mv_A_run ⟨_, rfl, rfl⟩ (xA_run hG (d - 1) (by omega) hq3) (by omega) h4 rfl rfl (Nat.le_of_ble_eq_true rfl) hkn ?_
  refine zz_aload_n C 2 ddW_law_1268 rfl rfl ?_
  refine zz_aload_n C 0 ddW_law_1269 rfl rfl ?_
  refine zz_iload C 4 ddW_law_1270 rfl ?_
  refine zz_iconst (v := 1) C ddW_law_1272 (by decide) ?_
  refine zz_iadd C ddW_law_1273 ?_
  obtain ⟨h5, h⟩ := gdN h
  refine zz_iaload C ddW_law_1274 h5 ?_
  refine zz_aload_n C 0 ddW_law_1275 rfl rfl ?_
  refine zz_iload C 4 ddW_law_1276 rfl ?_
  refine zz_iconst (v := 2) C ddW_law_1278 (by decide) ?_
  refine zz_iadd C ddW_law_1279 ?_
  obtain ⟨h6, h⟩ := gdN h
  refine zz_iaload C ddW_law_1280 h6 ?_
  obtain ⟨h8, h⟩ := gdN h
  obtain ⟨q7, hq7, h⟩ := bindN h
  refine zz_callVk (As := [.int (giM q3.2 5006 (Int32.toNatClampNeg (i + 1))), .int (giM q3.2 5006 (Int32.toNatClampNeg (i + 2)))]) C ddW_law_1281 wd_1694 my_M_run mv_M_run ⟨_, rfl, rfl⟩ (xM_run hG (d - 1) (by omega) hq7) (by omega) h8 rfl rfl (Nat.le_of_ble_eq_true rfl) hkn ?_
  refine zz_icmp_eq (tgt := 1451) C ddW_law_1284 rfl (fun hc => ?_) (fun hc => ?_)
  · replace h := iteT h hc
    obtain rfl := Option.some.inj h
    exact kk
  · replace h := iteF h hc
    refine zz_iconst (v := 0) C ddW_law_1287 (by decide) ?_
    cases h
set_option maxHeartbeats 2000000 in
theorem zW_30 {G : GXM} {X : CxM} (hG : GokM G) (C : CoM G X code "HomeFreedLaw") (N : mLM X = 7) {d : Nat} (hD : dpM X = d) (hd : 90 ≤ d) {i : Int32} {M M1 : Mem} {k n : Nat} (hkn : k ≤ X.2.2.2.1.cells ∧ n ≤ X.2.2.2.1.slots) (h : fW_30 i M = some M1) (kk : ZM G X 1451 [(0, .ref 5006), (1, .ref 1), (2, .ref 1003), (3, .ref 1021), (4, .int i)] [] M1 (k) (n)) : ZM G X 1289 [(0, .ref 5006), (1, .ref 1), (2, .ref 1003), (3, .ref 1021), (4, .int i)] [] M k n := by
  unfold fW_30 at h
  refine zz_aload_n C 1 ddW_law_1289 rfl rfl ?_
  refine zz_aload_n C 0 ddW_law_1290 rfl rfl ?_
  refine zz_iload C 4 ddW_law_1291 rfl ?_
  refine zz_iconst (v := 1) C ddW_law_1293 (by decide) ?_
  refine zz_iadd C ddW_law_1294 ?_
  obtain ⟨h1, h⟩ := gdN h
  refine zz_iaload C ddW_law_1295 h1 ?_
  refine zz_aload_n C 0 ddW_law_1296 rfl rfl ?_
  refine zz_iload C 4 ddW_law_1297 rfl ?_
  refine zz_iconst (v := 2) C ddW_law_1299 (by decide) ?_
  refine zz_iadd C ddW_law_1300 ?_
  obtain ⟨h2, h⟩ := gdN h
  refine zz_iaload C ddW_law_1301 h2 ?_
  refine zz_aload_n C 0 ddW_law_1302 rfl rfl ?_
  refine zz_iload C 4 ddW_law_1303 rfl ?_
  refine zz_iconst (v := 3) C ddW_law_1305 (by decide) ?_
  refine zz_iadd C ddW_law_1306 ?_
  obtain ⟨h3, h⟩ := gdN h
  refine zz_iaload C ddW_law_1307 h3 ?_
  obtain ⟨h5, h⟩ := gdN h
  obtain ⟨q4, hq4, h⟩ := bindN h
  refine zz_callVk (As := [.int (giM M 5006 (Int32.toNatClampNeg (i + 1))), .int (giM M 5006 (Int32.toNatClampNeg (i + 2))), .int (giM M 5006 (Int32.toNatClampNeg (i + 3)))]) C ddW_law_1308 wd_982 my_A_ways mv_A_ways ⟨_, rfl, rfl⟩ (xA_ways hG (d - 1) (by omega) hq4) (by omega) h5 rfl rfl (Nat.le_of_ble_eq_true rfl) hkn ?_
  refine zz_aload_n C 2 ddW_law_1311 rfl rfl ?_
  refine zz_aload_n C 0 ddW_law_1312 rfl rfl ?_
  refine zz_iload C 4 ddW_law_1313 rfl ?_
  refine zz_iconst (v := 1) C ddW_law_1315 (by decide) ?_
  refine zz_iadd C ddW_law_1316 ?_
  obtain ⟨h6, h⟩ := gdN h
  refine zz_iaload C ddW_law_1317 h6 ?_
  refine zz_aload_n C 0 ddW_law_1318 rfl rfl ?_
  refine zz_iload C 4 ddW_law_1319 rfl ?_
  refine zz_iconst (v := 2) C ddW_law_1321 (by decide) ?_
  refine zz_iadd C ddW_law_1322 ?_
  obtain ⟨h7, h⟩ := gdN h
  refine zz_iaload C ddW_law_1323 h7 ?_
  refine zz_aload_n C 0 ddW_law_1324 rfl rfl ?_
  refine zz_iload C 4 ddW_law_1325 rfl ?_
  refine zz_iconst (v := 3) C ddW_law_1327 (by decide) ?_
  refine zz_iadd C ddW_law_1328 ?_
  obtain ⟨h8, h⟩ := gdN h
  refine zz_iaload C ddW_law_1329 h8 ?_
  obtain ⟨h10, h⟩ := gdN h
  obtain ⟨q9, hq9, h⟩ := bindN h
  refine zz_callVk (As := [.int (giM q4.2 5006 (Int32.toNatClampNeg (i + 1))), .int (giM q4.2 5006 (Int32.toNatClampNeg (i + 2))), .int (giM q4.2 5006 (Int32.toNatClampNeg (i + 3)))]) C ddW_law_1330 wd_1702 my_M_ways mv_M_ways ⟨_, rfl, rfl⟩ (xM_ways hG (d - 1) (by omega) hq9) (by omega) h10 rfl rfl (Nat.le_of_ble_eq_true rfl) hkn ?_
  refine zz_icmp_eq (tgt := 1451) C ddW_law_1333 rfl (fun hc => ?_) (fun hc => ?_)
  · replace h := iteT h hc
    obtain rfl := Option.some.inj h
    exact kk
  · replace h := iteF h hc
    refine zz_iconst (v := 0) C ddW_law_1336 (by decide) ?_
    cases h
set_option maxHeartbeats 2000000 in
theorem zW_31 {G : GXM} {X : CxM} (hG : GokM G) (C : CoM G X code "HomeFreedLaw") (N : mLM X = 7) {d : Nat} (hD : dpM X = d) (hd : 90 ≤ d) {i : Int32} {M M1 : Mem} {k n : Nat} (hkn : k ≤ X.2.2.2.1.cells ∧ n ≤ X.2.2.2.1.slots) (h : fW_31 i M = some M1) (kk : ZM G X 1451 [(0, .ref 5006), (1, .ref 1), (2, .ref 1003), (3, .ref 1021), (4, .int i)] [] M1 (k) (n)) : ZM G X 1338 [(0, .ref 5006), (1, .ref 1), (2, .ref 1003), (3, .ref 1021), (4, .int i)] [] M k n := by
  unfold fW_31 at h
  refine zz_aload_n C 1 ddW_law_1338 rfl rfl ?_
  refine zz_aload_n C 0 ddW_law_1339 rfl rfl ?_
  refine zz_iload C 4 ddW_law_1340 rfl ?_
  refine zz_iconst (v := 1) C ddW_law_1342 (by decide) ?_
  refine zz_iadd C ddW_law_1343 ?_
  obtain ⟨h1, h⟩ := gdN h
  refine zz_iaload C ddW_law_1344 h1 ?_
  refine zz_aload_n C 0 ddW_law_1345 rfl rfl ?_
  refine zz_iload C 4 ddW_law_1346 rfl ?_
  refine zz_iconst (v := 2) C ddW_law_1348 (by decide) ?_
  refine zz_iadd C ddW_law_1349 ?_
  obtain ⟨h2, h⟩ := gdN h
  refine zz_iaload C ddW_law_1350 h2 ?_
  obtain ⟨h4, h⟩ := gdN h
  obtain ⟨q3, hq3, h⟩ := bindN h
  refine zz_callVk (As := [.int (giM M 5006 (Int32.toNatClampNeg (i + 1))), .int (giM M 5006 (Int32.toNatClampNeg (i + 2)))]) C ddW_law_1351 wd_1021 my_A_shares mv_A_shares ⟨_, rfl, rfl⟩ (xA_shares hG (d - 1) (by omega) hq3) (by omega) h4 rfl rfl (Nat.le_of_ble_eq_true rfl) hkn ?_
  refine zz_aload_n C 2 ddW_law_1354 rfl rfl ?_
  refine zz_aload_n C 0 ddW_law_1355 rfl rfl ?_
  refine zz_iload C 4 ddW_law_1356 rfl ?_
  refine zz_iconst (v := 1) C ddW_law_1358 (by decide) ?_
  refine zz_iadd C ddW_law_1359 ?_
  obtain ⟨h5, h⟩ := gdN h
  refine zz_iaload C ddW_law_1360 h5 ?_
  refine zz_aload_n C 0 ddW_law_1361 rfl rfl ?_
  refine zz_iload C 4 ddW_law_1362 rfl ?_
  refine zz_iconst (v := 2) C ddW_law_1364 (by decide) ?_
  refine zz_iadd C ddW_law_1365 ?_
  obtain ⟨h6, h⟩ := gdN h
  refine zz_iaload C ddW_law_1366 h6 ?_
  obtain ⟨h8, h⟩ := gdN h
  obtain ⟨q7, hq7, h⟩ := bindN h
  refine zz_callVk (As := [.int (giM q3.2 5006 (Int32.toNatClampNeg (i + 1))), .int (giM q3.2 5006 (Int32.toNatClampNeg (i + 2)))]) C ddW_law_1367 wd_1720 my_M_shares mv_M_shares ⟨_, rfl, rfl⟩ (xM_shares hG (d - 1) (by omega) hq7) (by omega) h8 rfl rfl (Nat.le_of_ble_eq_true rfl) hkn ?_
  refine zz_icmp_eq (tgt := 1451) C ddW_law_1370 rfl (fun hc => ?_) (fun hc => ?_)
  · replace h := iteT h hc
    obtain rfl := Option.some.inj h
    exact kk
  · replace h := iteF h hc
    refine zz_iconst (v := 0) C ddW_law_1373 (by decide) ?_
    cases h
set_option maxHeartbeats 2000000 in
theorem zW_32 {G : GXM} {X : CxM} (hG : GokM G) (C : CoM G X code "HomeFreedLaw") (N : mLM X = 7) {d : Nat} (hD : dpM X = d) (hd : 90 ≤ d) {i : Int32} {M M1 : Mem} {k n : Nat} (hkn : k ≤ X.2.2.2.1.cells ∧ n ≤ X.2.2.2.1.slots) (h : fW_32 i M = some M1) (kk : ZM G X 1451 [(0, .ref 5006), (1, .ref 1), (2, .ref 1003), (3, .ref 1021), (4, .int i)] [] M1 (k) (n)) : ZM G X 1375 [(0, .ref 5006), (1, .ref 1), (2, .ref 1003), (3, .ref 1021), (4, .int i)] [] M k n := by
  unfold fW_32 at h
  refine zz_aload_n C 1 ddW_law_1375 rfl rfl ?_
  refine zz_aload_n C 0 ddW_law_1376 rfl rfl ?_
  refine zz_iload C 4 ddW_law_1377 rfl ?_
  refine zz_iconst (v := 1) C ddW_law_1379 (by decide) ?_
  refine zz_iadd C ddW_law_1380 ?_
  obtain ⟨h1, h⟩ := gdN h
  refine zz_iaload C ddW_law_1381 h1 ?_
  obtain ⟨h3, h⟩ := gdN h
  obtain ⟨q2, hq2, h⟩ := bindN h
  refine zz_callVk (As := [.int (giM M 5006 (Int32.toNatClampNeg (i + 1)))]) C ddW_law_1382 wd_1025 my_A_most mv_A_most ⟨_, rfl, rfl⟩ (xA_most hG (d - 1) (by omega) hq2) (by omega) h3 rfl rfl (Nat.le_of_ble_eq_true rfl) hkn ?_
  refine zz_aload_n C 2 ddW_law_1385 rfl rfl ?_
  refine zz_aload_n C 0 ddW_law_1386 rfl rfl ?_
  refine zz_iload C 4 ddW_law_1387 rfl ?_
  refine zz_iconst (v := 1) C ddW_law_1389 (by decide) ?_
  refine zz_iadd C ddW_law_1390 ?_
  obtain ⟨h4, h⟩ := gdN h
  refine zz_iaload C ddW_law_1391 h4 ?_
  obtain ⟨h6, h⟩ := gdN h
  obtain ⟨q5, hq5, h⟩ := bindN h
  refine zz_callVk (As := [.int (giM q2.2 5006 (Int32.toNatClampNeg (i + 1)))]) C ddW_law_1392 wd_1732 my_M_most mv_M_most ⟨_, rfl, rfl⟩ (xM_most hG (d - 1) (by omega) hq5) (by omega) h6 rfl rfl (Nat.le_of_ble_eq_true rfl) hkn ?_
  refine zz_icmp_eq (tgt := 1451) C ddW_law_1395 rfl (fun hc => ?_) (fun hc => ?_)
  · replace h := iteT h hc
    obtain rfl := Option.some.inj h
    exact kk
  · replace h := iteF h hc
    refine zz_iconst (v := 0) C ddW_law_1398 (by decide) ?_
    cases h
set_option maxHeartbeats 2000000 in
theorem zW_33 {G : GXM} {X : CxM} (hG : GokM G) (C : CoM G X code "HomeFreedLaw") (N : mLM X = 7) {d : Nat} (hD : dpM X = d) (hd : 90 ≤ d) {i : Int32} {M M1 : Mem} {k n : Nat} (hkn : k ≤ X.2.2.2.1.cells ∧ n ≤ X.2.2.2.1.slots) (h : fW_33 i M = some M1) (kk : ZM G X 1451 [(0, .ref 5006), (1, .ref 1), (2, .ref 1003), (3, .ref 1021), (4, .int i)] [] M1 (k) (n)) : ZM G X 1400 [(0, .ref 5006), (1, .ref 1), (2, .ref 1003), (3, .ref 1021), (4, .int i)] [] M k n := by
  unfold fW_33 at h
  refine zz_aload_n C 1 ddW_law_1400 rfl rfl ?_
  obtain ⟨h2, h⟩ := gdN h
  obtain ⟨q1, hq1, h⟩ := bindN h
  refine zz_callVk (As := []) C ddW_law_1401 wd_1075 my_A_image mv_A_image ⟨_, rfl, rfl⟩ (xA_image hG (d - 1) (by omega) hq1) (by omega) h2 rfl rfl (Nat.le_of_ble_eq_true rfl) hkn ?_
  refine zz_aload_n C 2 ddW_law_1404 rfl rfl ?_
  obtain ⟨h4, h⟩ := gdN h
  obtain ⟨q3, hq3, h⟩ := bindN h
  refine zz_callVk (As := []) C ddW_law_1405 wd_1772 my_M_image mv_M_image ⟨_, rfl, rfl⟩ (xM_image hG (d - 1) (by omega) hq3) (by omega) h4 rfl rfl (Nat.le_of_ble_eq_true rfl) hkn ?_
  refine zz_icmp_eq (tgt := 1451) C ddW_law_1408 rfl (fun hc => ?_) (fun hc => ?_)
  · replace h := iteT h hc
    obtain rfl := Option.some.inj h
    exact kk
  · replace h := iteF h hc
    refine zz_iconst (v := 0) C ddW_law_1411 (by decide) ?_
    cases h
set_option maxHeartbeats 2000000 in
theorem zW_34 {G : GXM} {X : CxM} (hG : GokM G) (C : CoM G X code "HomeFreedLaw") (N : mLM X = 7) {d : Nat} (hD : dpM X = d) (hd : 90 ≤ d) {i : Int32} {M M1 : Mem} {k n : Nat} (hkn : k ≤ X.2.2.2.1.cells ∧ n ≤ X.2.2.2.1.slots) (h : fW_34 i M = some M1) (kk : ZM G X 1451 [(0, .ref 5006), (1, .ref 1), (2, .ref 1003), (3, .ref 1021), (4, .int i)] [] M1 (k) (n)) : ZM G X 1413 [(0, .ref 5006), (1, .ref 1), (2, .ref 1003), (3, .ref 1021), (4, .int i)] [] M k n := by
  unfold fW_34 at h
  refine zz_aload_n C 1 ddW_law_1413 rfl rfl ?_
  obtain ⟨h2, h⟩ := gdN h
  obtain ⟨q1, hq1, h⟩ := bindN h
  refine zz_callVk (As := []) C ddW_law_1414 wd_1079 my_A_back mv_A_back ⟨_, rfl, rfl⟩ (xA_back hG (d - 1) (by omega) hq1) (by omega) h2 rfl rfl (Nat.le_of_ble_eq_true rfl) hkn ?_
  refine zz_aload_n C 2 ddW_law_1417 rfl rfl ?_
  obtain ⟨h4, h⟩ := gdN h
  obtain ⟨q3, hq3, h⟩ := bindN h
  refine zz_callVk (As := []) C ddW_law_1418 wd_1776 my_M_back mv_M_back ⟨_, rfl, rfl⟩ (xM_back hG (d - 1) (by omega) hq3) (by omega) h4 rfl rfl (Nat.le_of_ble_eq_true rfl) hkn ?_
  refine zz_icmp_eq (tgt := 1451) C ddW_law_1421 rfl (fun hc => ?_) (fun hc => ?_)
  · replace h := iteT h hc
    obtain rfl := Option.some.inj h
    exact kk
  · replace h := iteF h hc
    refine zz_iconst (v := 0) C ddW_law_1424 (by decide) ?_
    cases h
set_option maxHeartbeats 2000000 in
theorem zW_35 {G : GXM} {X : CxM} (hG : GokM G) (C : CoM G X code "HomeFreedLaw") (N : mLM X = 7) {d : Nat} (hD : dpM X = d) (hd : 90 ≤ d) {i : Int32} {M M1 : Mem} {k n : Nat} (hkn : k ≤ X.2.2.2.1.cells ∧ n ≤ X.2.2.2.1.slots) (h : fW_35 i M = some M1) (kk : ZM G X 1451 [(0, .ref 5006), (1, .ref 1), (2, .ref 1003), (3, .ref 1021), (4, .int i)] [] M1 (k) (n)) : ZM G X 1426 [(0, .ref 5006), (1, .ref 1), (2, .ref 1003), (3, .ref 1021), (4, .int i)] [] M k n := by
  unfold fW_35 at h
  refine zz_aload_n C 1 ddW_law_1426 rfl rfl ?_
  refine zz_aload_n C 0 ddW_law_1427 rfl rfl ?_
  refine zz_iload C 4 ddW_law_1428 rfl ?_
  refine zz_iconst (v := 1) C ddW_law_1430 (by decide) ?_
  refine zz_iadd C ddW_law_1431 ?_
  obtain ⟨h1, h⟩ := gdN h
  refine zz_iaload C ddW_law_1432 h1 ?_
  obtain ⟨h3, h⟩ := gdN h
  obtain ⟨q2, hq2, h⟩ := bindN h
  refine zz_callVk (As := [.int (giM M 5006 (Int32.toNatClampNeg (i + 1)))]) C ddW_law_1433 wd_1083 my_A_count mv_A_count ⟨_, rfl, rfl⟩ (xA_count hG (d - 1) (by omega) hq2) (by omega) h3 rfl rfl (Nat.le_of_ble_eq_true rfl) hkn ?_
  refine zz_aload_n C 2 ddW_law_1436 rfl rfl ?_
  refine zz_aload_n C 0 ddW_law_1437 rfl rfl ?_
  refine zz_iload C 4 ddW_law_1438 rfl ?_
  refine zz_iconst (v := 1) C ddW_law_1440 (by decide) ?_
  refine zz_iadd C ddW_law_1441 ?_
  obtain ⟨h4, h⟩ := gdN h
  refine zz_iaload C ddW_law_1442 h4 ?_
  obtain ⟨h6, h⟩ := gdN h
  obtain ⟨q5, hq5, h⟩ := bindN h
  refine zz_callVk (As := [.int (giM q2.2 5006 (Int32.toNatClampNeg (i + 1)))]) C ddW_law_1443 wd_1780 my_M_count mv_M_count ⟨_, rfl, rfl⟩ (xM_count hG (d - 1) (by omega) hq5) (by omega) h6 rfl rfl (Nat.le_of_ble_eq_true rfl) hkn ?_
  refine zz_icmp_eq (tgt := 1451) C ddW_law_1446 rfl (fun hc => ?_) (fun hc => ?_)
  · replace h := iteT h hc
    obtain rfl := Option.some.inj h
    exact kk
  · replace h := iteF h hc
    refine zz_iconst (v := 0) C ddW_law_1449 (by decide) ?_
    cases h
set_option maxHeartbeats 4000000 in
theorem zW_step {G : GXM} {X : CxM} (hG : GokM G) (C : CoM G X code "HomeFreedLaw") (N : mLM X = 7) {d : Nat} (hD : dpM X = d) (hd : 90 ≤ d) (hf : G.2.2.2.2 = false) (hT : TxM G) (hl : X.2.1.stackTraces = false) {v i : Int32} {M M1 : Mem} {k n : Nat} (hkn : k + 1 ≤ X.2.2.2.1.cells ∧ n + 6 ≤ X.2.2.2.1.slots) (h : fW_step v i M = some M1) (kk : ZM G X 1451 [(0, .ref 5006), (1, .ref 1), (2, .ref 1003), (3, .ref 1021), (4, .int i)] [] M1 (k + 1) (n + 6)) : ZM G X 40 [(0, .ref 5006), (1, .ref 1), (2, .ref 1003), (3, .ref 1021), (4, .int i)] [.int v] M k n := by
  unfold fW_step at h
  by_cases hs0 : v = 0
  · subst hs0
    replace h := iteT h rfl
    refine zz_tableIn (tgt := 200) C ddW_law_40 (by decide) (by decide) rfl rfl ?_
    exact zW_0 hG C N hD hd ⟨Nat.le_of_succ_le hkn.1, Nat.le_trans (Nat.le_add_right _ _) hkn.2⟩ h (zz_widen (Nat.le_add_right _ _) (Nat.le_add_right _ _) kk)
  replace h := iteF h hs0
  by_cases hs1 : v = 1
  · subst hs1
    replace h := iteT h rfl
    refine zz_tableIn (tgt := 273) C ddW_law_40 (by decide) (by decide) rfl rfl ?_
    exact zW_1 hG C N hD hd ⟨Nat.le_of_succ_le hkn.1, Nat.le_trans (Nat.le_add_right _ _) hkn.2⟩ h (zz_widen (Nat.le_add_right _ _) (Nat.le_add_right _ _) kk)
  replace h := iteF h hs1
  by_cases hs2 : v = 2
  · subst hs2
    replace h := iteT h rfl
    refine zz_tableIn (tgt := 298) C ddW_law_40 (by decide) (by decide) rfl rfl ?_
    exact zW_2 hG C N hD hd ⟨Nat.le_of_succ_le hkn.1, Nat.le_trans (Nat.le_add_right _ _) hkn.2⟩ h (zz_widen (Nat.le_add_right _ _) (Nat.le_add_right _ _) kk)
  replace h := iteF h hs2
  by_cases hs3 : v = 3
  · subst hs3
    replace h := iteT h rfl
    refine zz_tableIn (tgt := 323) C ddW_law_40 (by decide) (by decide) rfl rfl ?_
    exact zW_3 hG C N hD hd ⟨Nat.le_of_succ_le hkn.1, Nat.le_trans (Nat.le_add_right _ _) hkn.2⟩ h (zz_widen (Nat.le_add_right _ _) (Nat.le_add_right _ _) kk)
  replace h := iteF h hs3
  by_cases hs4 : v = 4
  · subst hs4
    replace h := iteT h rfl
    refine zz_tableIn (tgt := 348) C ddW_law_40 (by decide) (by decide) rfl rfl ?_
    exact zW_4 hG C N hD hd ⟨Nat.le_of_succ_le hkn.1, Nat.le_trans (Nat.le_add_right _ _) hkn.2⟩ h (zz_widen (Nat.le_add_right _ _) (Nat.le_add_right _ _) kk)
  replace h := iteF h hs4
  by_cases hs5 : v = 5
  · subst hs5
    replace h := iteT h rfl
    refine zz_tableIn (tgt := 373) C ddW_law_40 (by decide) (by decide) rfl rfl ?_
    exact zW_5 hG C N hD hd ⟨Nat.le_of_succ_le hkn.1, Nat.le_trans (Nat.le_add_right _ _) hkn.2⟩ h (zz_widen (Nat.le_add_right _ _) (Nat.le_add_right _ _) kk)
  replace h := iteF h hs5
  by_cases hs6 : v = 6
  · subst hs6
    replace h := iteT h rfl
    refine zz_tableIn (tgt := 398) C ddW_law_40 (by decide) (by decide) rfl rfl ?_
    exact zW_6 hG C N hD hd hf hT hl hkn h kk
  replace h := iteF h hs6
  by_cases hs7 : v = 7
  · subst hs7
    replace h := iteT h rfl
    refine zz_tableIn (tgt := 466) C ddW_law_40 (by decide) (by decide) rfl rfl ?_
    exact zW_7 hG C N hD hd ⟨Nat.le_of_succ_le hkn.1, Nat.le_trans (Nat.le_add_right _ _) hkn.2⟩ h (zz_widen (Nat.le_add_right _ _) (Nat.le_add_right _ _) kk)
  replace h := iteF h hs7
  by_cases hs8 : v = 8
  · subst hs8
    replace h := iteT h rfl
    refine zz_tableIn (tgt := 515) C ddW_law_40 (by decide) (by decide) rfl rfl ?_
    exact zW_8 hG C N hD hd ⟨Nat.le_of_succ_le hkn.1, Nat.le_trans (Nat.le_add_right _ _) hkn.2⟩ h (zz_widen (Nat.le_add_right _ _) (Nat.le_add_right _ _) kk)
  replace h := iteF h hs8
  by_cases hs9 : v = 9
  · subst hs9
    replace h := iteT h rfl
    refine zz_tableIn (tgt := 552) C ddW_law_40 (by decide) (by decide) rfl rfl ?_
    exact zW_9 hG C N hD hd ⟨Nat.le_of_succ_le hkn.1, Nat.le_trans (Nat.le_add_right _ _) hkn.2⟩ h (zz_widen (Nat.le_add_right _ _) (Nat.le_add_right _ _) kk)
  replace h := iteF h hs9
  by_cases hs10 : v = 10
  · subst hs10
    replace h := iteT h rfl
    refine zz_tableIn (tgt := 601) C ddW_law_40 (by decide) (by decide) rfl rfl ?_
    exact zW_10 hG C N hD hd ⟨Nat.le_of_succ_le hkn.1, Nat.le_trans (Nat.le_add_right _ _) hkn.2⟩ h (zz_widen (Nat.le_add_right _ _) (Nat.le_add_right _ _) kk)
  replace h := iteF h hs10
  by_cases hs11 : v = 11
  · subst hs11
    replace h := iteT h rfl
    refine zz_tableIn (tgt := 650) C ddW_law_40 (by decide) (by decide) rfl rfl ?_
    exact zW_11 hG C N hD hd ⟨Nat.le_of_succ_le hkn.1, Nat.le_trans (Nat.le_add_right _ _) hkn.2⟩ h (zz_widen (Nat.le_add_right _ _) (Nat.le_add_right _ _) kk)
  replace h := iteF h hs11
  by_cases hs12 : v = 12
  · subst hs12
    replace h := iteT h rfl
    refine zz_tableIn (tgt := 675) C ddW_law_40 (by decide) (by decide) rfl rfl ?_
    exact zW_12 hG C N hD hd ⟨Nat.le_of_succ_le hkn.1, Nat.le_trans (Nat.le_add_right _ _) hkn.2⟩ h (zz_widen (Nat.le_add_right _ _) (Nat.le_add_right _ _) kk)
  replace h := iteF h hs12
  by_cases hs13 : v = 13
  · subst hs13
    replace h := iteT h rfl
    refine zz_tableIn (tgt := 712) C ddW_law_40 (by decide) (by decide) rfl rfl ?_
    exact zW_13 hG C N hD hd ⟨Nat.le_of_succ_le hkn.1, Nat.le_trans (Nat.le_add_right _ _) hkn.2⟩ h (zz_widen (Nat.le_add_right _ _) (Nat.le_add_right _ _) kk)
  replace h := iteF h hs13
  by_cases hs14 : v = 14
  · subst hs14
    replace h := iteT h rfl
    refine zz_tableIn (tgt := 749) C ddW_law_40 (by decide) (by decide) rfl rfl ?_
    exact zW_14 hG C N hD hd ⟨Nat.le_of_succ_le hkn.1, Nat.le_trans (Nat.le_add_right _ _) hkn.2⟩ h (zz_widen (Nat.le_add_right _ _) (Nat.le_add_right _ _) kk)
  replace h := iteF h hs14
  by_cases hs15 : v = 15
  · subst hs15
    replace h := iteT h rfl
    refine zz_tableIn (tgt := 774) C ddW_law_40 (by decide) (by decide) rfl rfl ?_
    exact zW_15 hG C N hD hd ⟨Nat.le_of_succ_le hkn.1, Nat.le_trans (Nat.le_add_right _ _) hkn.2⟩ h (zz_widen (Nat.le_add_right _ _) (Nat.le_add_right _ _) kk)
  replace h := iteF h hs15
  by_cases hs16 : v = 16
  · subst hs16
    replace h := iteT h rfl
    refine zz_tableIn (tgt := 799) C ddW_law_40 (by decide) (by decide) rfl rfl ?_
    exact zW_16 hG C N hD hd ⟨Nat.le_of_succ_le hkn.1, Nat.le_trans (Nat.le_add_right _ _) hkn.2⟩ h (zz_widen (Nat.le_add_right _ _) (Nat.le_add_right _ _) kk)
  replace h := iteF h hs16
  by_cases hs17 : v = 17
  · subst hs17
    replace h := iteT h rfl
    refine zz_tableIn (tgt := 824) C ddW_law_40 (by decide) (by decide) rfl rfl ?_
    exact zW_17 hG C N hD hd ⟨Nat.le_of_succ_le hkn.1, Nat.le_trans (Nat.le_add_right _ _) hkn.2⟩ h (zz_widen (Nat.le_add_right _ _) (Nat.le_add_right _ _) kk)
  replace h := iteF h hs17
  by_cases hs18 : v = 18
  · subst hs18
    replace h := iteT h rfl
    refine zz_tableIn (tgt := 849) C ddW_law_40 (by decide) (by decide) rfl rfl ?_
    exact zW_18 hG C N hD hd ⟨Nat.le_of_succ_le hkn.1, Nat.le_trans (Nat.le_add_right _ _) hkn.2⟩ h (zz_widen (Nat.le_add_right _ _) (Nat.le_add_right _ _) kk)
  replace h := iteF h hs18
  by_cases hs19 : v = 19
  · subst hs19
    replace h := iteT h rfl
    refine zz_tableIn (tgt := 918) C ddW_law_40 (by decide) (by decide) rfl rfl ?_
    exact zW_19 hG C N hD hd ⟨Nat.le_of_succ_le hkn.1, Nat.le_trans (Nat.le_add_right _ _) hkn.2⟩ h (zz_widen (Nat.le_add_right _ _) (Nat.le_add_right _ _) kk)
  replace h := iteF h hs19
  by_cases hs20 : v = 20
  · subst hs20
    replace h := iteT h rfl
    refine zz_tableIn (tgt := 943) C ddW_law_40 (by decide) (by decide) rfl rfl ?_
    exact zW_20 hG C N hD hd ⟨Nat.le_of_succ_le hkn.1, Nat.le_trans (Nat.le_add_right _ _) hkn.2⟩ h (zz_widen (Nat.le_add_right _ _) (Nat.le_add_right _ _) kk)
  replace h := iteF h hs20
  by_cases hs21 : v = 21
  · subst hs21
    replace h := iteT h rfl
    refine zz_tableIn (tgt := 956) C ddW_law_40 (by decide) (by decide) rfl rfl ?_
    exact zW_21 hG C N hD hd ⟨Nat.le_of_succ_le hkn.1, Nat.le_trans (Nat.le_add_right _ _) hkn.2⟩ h (zz_widen (Nat.le_add_right _ _) (Nat.le_add_right _ _) kk)
  replace h := iteF h hs21
  by_cases hs22 : v = 22
  · subst hs22
    replace h := iteT h rfl
    refine zz_tableIn (tgt := 993) C ddW_law_40 (by decide) (by decide) rfl rfl ?_
    exact zW_22 hG C N hD hd ⟨Nat.le_of_succ_le hkn.1, Nat.le_trans (Nat.le_add_right _ _) hkn.2⟩ h (zz_widen (Nat.le_add_right _ _) (Nat.le_add_right _ _) kk)
  replace h := iteF h hs22
  by_cases hs23 : v = 23
  · subst hs23
    replace h := iteT h rfl
    refine zz_tableIn (tgt := 1042) C ddW_law_40 (by decide) (by decide) rfl rfl ?_
    exact zW_23 hG C N hD hd ⟨Nat.le_of_succ_le hkn.1, Nat.le_trans (Nat.le_add_right _ _) hkn.2⟩ h (zz_widen (Nat.le_add_right _ _) (Nat.le_add_right _ _) kk)
  replace h := iteF h hs23
  by_cases hs24 : v = 24
  · subst hs24
    replace h := iteT h rfl
    refine zz_tableIn (tgt := 1067) C ddW_law_40 (by decide) (by decide) rfl rfl ?_
    exact zW_24 hG C N hD hd ⟨Nat.le_of_succ_le hkn.1, Nat.le_trans (Nat.le_add_right _ _) hkn.2⟩ h (zz_widen (Nat.le_add_right _ _) (Nat.le_add_right _ _) kk)
  replace h := iteF h hs24
  by_cases hs25 : v = 25
  · subst hs25
    replace h := iteT h rfl
    refine zz_tableIn (tgt := 1104) C ddW_law_40 (by decide) (by decide) rfl rfl ?_
    exact zW_25 hG C N hD hd ⟨Nat.le_of_succ_le hkn.1, Nat.le_trans (Nat.le_add_right _ _) hkn.2⟩ h (zz_widen (Nat.le_add_right _ _) (Nat.le_add_right _ _) kk)
  replace h := iteF h hs25
  by_cases hs26 : v = 26
  · subst hs26
    replace h := iteT h rfl
    refine zz_tableIn (tgt := 1141) C ddW_law_40 (by decide) (by decide) rfl rfl ?_
    exact zW_26 hG C N hD hd ⟨Nat.le_of_succ_le hkn.1, Nat.le_trans (Nat.le_add_right _ _) hkn.2⟩ h (zz_widen (Nat.le_add_right _ _) (Nat.le_add_right _ _) kk)
  replace h := iteF h hs26
  by_cases hs27 : v = 27
  · subst hs27
    replace h := iteT h rfl
    refine zz_tableIn (tgt := 1178) C ddW_law_40 (by decide) (by decide) rfl rfl ?_
    exact zW_27 hG C N hD hd ⟨Nat.le_of_succ_le hkn.1, Nat.le_trans (Nat.le_add_right _ _) hkn.2⟩ h (zz_widen (Nat.le_add_right _ _) (Nat.le_add_right _ _) kk)
  replace h := iteF h hs27
  by_cases hs28 : v = 28
  · subst hs28
    replace h := iteT h rfl
    refine zz_tableIn (tgt := 1227) C ddW_law_40 (by decide) (by decide) rfl rfl ?_
    exact zW_28 hG C N hD hd ⟨Nat.le_of_succ_le hkn.1, Nat.le_trans (Nat.le_add_right _ _) hkn.2⟩ h (zz_widen (Nat.le_add_right _ _) (Nat.le_add_right _ _) kk)
  replace h := iteF h hs28
  by_cases hs29 : v = 29
  · subst hs29
    replace h := iteT h rfl
    refine zz_tableIn (tgt := 1252) C ddW_law_40 (by decide) (by decide) rfl rfl ?_
    exact zW_29 hG C N hD hd ⟨Nat.le_of_succ_le hkn.1, Nat.le_trans (Nat.le_add_right _ _) hkn.2⟩ h (zz_widen (Nat.le_add_right _ _) (Nat.le_add_right _ _) kk)
  replace h := iteF h hs29
  by_cases hs30 : v = 30
  · subst hs30
    replace h := iteT h rfl
    refine zz_tableIn (tgt := 1289) C ddW_law_40 (by decide) (by decide) rfl rfl ?_
    exact zW_30 hG C N hD hd ⟨Nat.le_of_succ_le hkn.1, Nat.le_trans (Nat.le_add_right _ _) hkn.2⟩ h (zz_widen (Nat.le_add_right _ _) (Nat.le_add_right _ _) kk)
  replace h := iteF h hs30
  by_cases hs31 : v = 31
  · subst hs31
    replace h := iteT h rfl
    refine zz_tableIn (tgt := 1338) C ddW_law_40 (by decide) (by decide) rfl rfl ?_
    exact zW_31 hG C N hD hd ⟨Nat.le_of_succ_le hkn.1, Nat.le_trans (Nat.le_add_right _ _) hkn.2⟩ h (zz_widen (Nat.le_add_right _ _) (Nat.le_add_right _ _) kk)
  replace h := iteF h hs31
  by_cases hs32 : v = 32
  · subst hs32
    replace h := iteT h rfl
    refine zz_tableIn (tgt := 1375) C ddW_law_40 (by decide) (by decide) rfl rfl ?_
    exact zW_32 hG C N hD hd ⟨Nat.le_of_succ_le hkn.1, Nat.le_trans (Nat.le_add_right _ _) hkn.2⟩ h (zz_widen (Nat.le_add_right _ _) (Nat.le_add_right _ _) kk)
  replace h := iteF h hs32
  by_cases hs33 : v = 33
  · subst hs33
    replace h := iteT h rfl
    refine zz_tableIn (tgt := 1400) C ddW_law_40 (by decide) (by decide) rfl rfl ?_
    exact zW_33 hG C N hD hd ⟨Nat.le_of_succ_le hkn.1, Nat.le_trans (Nat.le_add_right _ _) hkn.2⟩ h (zz_widen (Nat.le_add_right _ _) (Nat.le_add_right _ _) kk)
  replace h := iteF h hs33
  by_cases hs34 : v = 34
  · subst hs34
    replace h := iteT h rfl
    refine zz_tableIn (tgt := 1413) C ddW_law_40 (by decide) (by decide) rfl rfl ?_
    exact zW_34 hG C N hD hd ⟨Nat.le_of_succ_le hkn.1, Nat.le_trans (Nat.le_add_right _ _) hkn.2⟩ h (zz_widen (Nat.le_add_right _ _) (Nat.le_add_right _ _) kk)
  replace h := iteF h hs34
  by_cases hs35 : v = 35
  · subst hs35
    replace h := iteT h rfl
    refine zz_tableIn (tgt := 1426) C ddW_law_40 (by decide) (by decide) rfl rfl ?_
    exact zW_35 hG C N hD hd ⟨Nat.le_of_succ_le hkn.1, Nat.le_trans (Nat.le_add_right _ _) hkn.2⟩ h (zz_widen (Nat.le_add_right _ _) (Nat.le_add_right _ _) kk)
  replace h := iteF h hs35
  have ths0 := lv_neT (a := 0) hs0 (by decide)
  have ths1 := lv_neT (a := 1) hs1 (by decide)
  have ths2 := lv_neT (a := 2) hs2 (by decide)
  have ths3 := lv_neT (a := 3) hs3 (by decide)
  have ths4 := lv_neT (a := 4) hs4 (by decide)
  have ths5 := lv_neT (a := 5) hs5 (by decide)
  have ths6 := lv_neT (a := 6) hs6 (by decide)
  have ths7 := lv_neT (a := 7) hs7 (by decide)
  have ths8 := lv_neT (a := 8) hs8 (by decide)
  have ths9 := lv_neT (a := 9) hs9 (by decide)
  have ths10 := lv_neT (a := 10) hs10 (by decide)
  have ths11 := lv_neT (a := 11) hs11 (by decide)
  have ths12 := lv_neT (a := 12) hs12 (by decide)
  have ths13 := lv_neT (a := 13) hs13 (by decide)
  have ths14 := lv_neT (a := 14) hs14 (by decide)
  have ths15 := lv_neT (a := 15) hs15 (by decide)
  have ths16 := lv_neT (a := 16) hs16 (by decide)
  have ths17 := lv_neT (a := 17) hs17 (by decide)
  have ths18 := lv_neT (a := 18) hs18 (by decide)
  have ths19 := lv_neT (a := 19) hs19 (by decide)
  have ths20 := lv_neT (a := 20) hs20 (by decide)
  have ths21 := lv_neT (a := 21) hs21 (by decide)
  have ths22 := lv_neT (a := 22) hs22 (by decide)
  have ths23 := lv_neT (a := 23) hs23 (by decide)
  have ths24 := lv_neT (a := 24) hs24 (by decide)
  have ths25 := lv_neT (a := 25) hs25 (by decide)
  have ths26 := lv_neT (a := 26) hs26 (by decide)
  have ths27 := lv_neT (a := 27) hs27 (by decide)
  have ths28 := lv_neT (a := 28) hs28 (by decide)
  have ths29 := lv_neT (a := 29) hs29 (by decide)
  have ths30 := lv_neT (a := 30) hs30 (by decide)
  have ths31 := lv_neT (a := 31) hs31 (by decide)
  have ths32 := lv_neT (a := 32) hs32 (by decide)
  have ths33 := lv_neT (a := 33) hs33 (by decide)
  have ths34 := lv_neT (a := 34) hs34 (by decide)
  have ths35 := lv_neT (a := 35) hs35 (by decide)
  refine zz_tableOut (tgt := 1451) C ddW_law_40 (by omega) rfl ?_
  obtain rfl := Option.some.inj h
  exact zz_widen (Nat.le_add_right _ _) (Nat.le_add_right _ _) kk
/-! the law's loop -/
def fW_loop : Nat → Int32 → Mem → Option Mem
  | 0 => fun _ _ => none
  | t + 1 => fun i M => gd (lnI M 5006) <| if Int32.ofNat (tgM M 5006).2 - 6 < i then some M else gd (rdI M 5006 i) <| (fW_step (giM M 5006 (Int32.toNatClampNeg i) &&& 63) i M).bind fun M' => fW_loop t (i + 6) M'
theorem zW_loop {G : GXM} {X : CxM} (hG : GokM G) (C : CoM G X code "HomeFreedLaw") (N : mLM X = 7) {d : Nat} (hD : dpM X = d) (hd : 90 ≤ d) (hf : G.2.2.2.2 = false) (hT : TxM G) (hl : X.2.1.stackTraces = false) {M1 : Mem} {kE nE : Nat} (hE : kE ≤ X.2.2.2.1.cells ∧ nE ≤ X.2.2.2.1.slots) (hend : ZM G X 1457 [] [] M1 kE nE) :
    ∀ (t : Nat) (i : Int32) (M : Mem) (k n : Nat), fW_loop t i M = some M1 → k + t ≤ kE → n + 6 * t ≤ nE → ZM G X 23 [(0, .ref 5006), (1, .ref 1), (2, .ref 1003), (3, .ref 1021), (4, .int i)] [] M k n := by
  intro t
  induction t with
  | zero => intro i M k n h; cases h
  | succ t ih =>
    intro i M k n h hk hn
    replace h : (gd (lnI M 5006) <| if Int32.ofNat (tgM M 5006).2 - 6 < i then some M else gd (rdI M 5006 i) <| (fW_step (giM M 5006 (Int32.toNatClampNeg i) &&& 63) i M).bind fun M' => fW_loop t (i + 6) M') = some M1 := h
    obtain ⟨h1, h⟩ := gdN h
    refine zz_iload C 4 ddW_law_23 rfl ?_
    refine zz_aload_n C 0 ddW_law_25 rfl rfl ?_
    refine zz_alenI C ddW_law_26 h1 ?_
    refine zz_bipush (v := 6) C ddW_law_27 (by decide) ?_
    refine zz_isub C ddW_law_29 ?_
    refine zz_icmp_gt (tgt := 1457) C ddW_law_30 rfl (fun hc => ?_) (fun hc => ?_)
    · replace h := iteT h hc
      obtain rfl := Option.some.inj h
      refine zz_loc (L1 := []) [] rfl ?_
      exact zz_widen (by omega) (by omega) hend
    · replace h := iteF h hc
      obtain ⟨h2, h⟩ := gdN h
      obtain ⟨M2, h3, h⟩ := bindN h
      refine zz_aload_n C 0 ddW_law_33 rfl rfl ?_
      refine zz_iload C 4 ddW_law_34 rfl ?_
      refine zz_iaload C ddW_law_36 h2 ?_
      refine zz_bipush (v := 63) C ddW_law_37 (by decide) ?_
      refine zz_iand C ddW_law_39 ?_
      refine zW_step hG C N hD hd hf hT hl ⟨by omega, by omega⟩ h3 ?_
      refine zz_iinc (v := i + 6) (L1 := [(4, .int (i + 6)), (0, .ref 5006), (1, .ref 1), (2, .ref 1003), (3, .ref 1021)]) C 4 ddW_law_1451 rfl rfl N (by decide) rfl ?_
      refine zz_goto (tgt := 23) C ddW_law_1454 rfl ?_
      refine zz_loc (L1 := [(0, .ref 5006), (1, .ref 1), (2, .ref 1003), (3, .ref 1021), (4, .int (i + 6))]) [1, 2, 3, 4, 0] rfl ?_
      exact ih (i + 6) M2 (k + 1) (n + 6) h (by omega) (by omega)
